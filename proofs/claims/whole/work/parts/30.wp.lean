/-! WALKS OVER THE LIGHT MACHINE -/
/-- a call at depth d comes to an end with Q -/
def Ok (d M : Nat) (as : List Value) (t : Lm) (Q : Lo → Lm → Prop) : Prop := ∃ N o t', s_callB mTab N d M as t = some (o, t') ∧ Q o t'
/-- a frame comes to an end with Q -/
def WP (d : Nat) (F : Lf) (pc : Nat) (ls st : List Value) (t : Lm) (Q : Lo → Lm → Prop) : Prop := ∃ N n o t', s_run (s_callB mTab N d) F n pc ls st t = some (o, t') ∧ Q o t'
theorem Ok.mono {d d' M : Nat} (h : d ≤ d') {as : List Value} {t : Lm} {Q Q' : Lo → Lm → Prop} (k : Ok d M as t Q) (hq : ∀ o t', Q o t' → Q' o t') : Ok d' M as t Q' := by
  obtain ⟨N, o, t', e, q⟩ := k
  exact ⟨N, o, t', s_callB_mono (Nat.le_refl N) h _ _ _ _ e, hq _ _ q⟩
theorem WP.mono {d : Nat} {F : Lf} {pc : Nat} {ls st : List Value} {t : Lm} {Q Q' : Lo → Lm → Prop} (k : WP d F pc ls st t Q) (hq : ∀ o t', Q o t' → Q' o t') : WP d F pc ls st t Q' := by
  obtain ⟨N, n, o, t', e, q⟩ := k
  exact ⟨N, n, o, t', e, hq _ _ q⟩
theorem Ok.enter {d M n : Nat} {F : Lf} {as ls : List Value} {t : Lm} {Q : Lo → Lm → Prop} (hT : mTab M = some (n, F)) (hl : s_enter n as = some ls) (k : WP d F 0 ls [] t Q) : Ok (d + 1) M as t Q := by
  obtain ⟨N, n', o, t', e, q⟩ := k
  refine ⟨max N n', o, t', ?_, q⟩
  rw [s_callB, hT]
  dsimp only
  rw [hl]
  exact s_run_mono (s_callB_mono (Nat.le_max_left _ _) (Nat.le_refl d)) (Nat.le_max_right _ _) e
theorem WP.go {d : Nat} {F : Lf} {pc pc' : Nat} {ls ls' st st' : List Value} {t t' : Lm} {Q : Lo → Lm → Prop} (h : s_step F pc ls st t = some (.inl (pc', ls', st', t'))) (k : WP d F pc' ls' st' t' Q) : WP d F pc ls st t Q := by
  obtain ⟨N, n, o, t2, e, q⟩ := k
  exact ⟨N, n + 1, o, t2, by rw [s_run, h]; exact e, q⟩
theorem WP.ret {d : Nat} {F : Lf} {pc : Nat} {ls st : List Value} {t : Lm} {v : Option Value} {Q : Lo → Lm → Prop} (h : s_step F pc ls st t = some (.inr (.inr (.inl v)))) (k : Q (.inl v) t) : WP d F pc ls st t Q :=
  ⟨0, 1, _, _, by rw [s_run, h], k⟩
theorem WP.throw {d : Nat} {F : Lf} {pc a : Nat} {ls st : List Value} {t : Lm} {Q : Lo → Lm → Prop} (h : s_step F pc ls st t = some (.inr (.inr (.inr a)))) (hf : s_find pc (lmK t a).1 F.2.2.2.1 = none) (k : Q (.inr a) t) : WP d F pc ls st t Q :=
  ⟨0, 1, .inr a, t, by rw [s_run, h]; dsimp only; rw [hf], k⟩
/-- what a caller goes on with -/
def Cont (d : Nat) (F : Lf) (pc pc' : Nat) (ls r : List Value) (Q : Lo → Lm → Prop) (o : Lo) (t : Lm) : Prop := match o with
  | .inl none => WP d F pc' ls r t Q
  | .inl (some v) => WP d F pc' ls (v :: r) t Q
  | .inr a => (match s_find pc (lmK t a).1 F.2.2.2.1 with
    | some h => WP d F h ls [.ref a] t Q
    | none => Q (.inr a) t)
theorem WP.call {d : Nat} {F : Lf} {pc M pc' : Nat} {ls st as r : List Value} {t : Lm} {Q : Lo → Lm → Prop} (h : s_step F pc ls st t = some (.inr (.inl (M, as, pc', r)))) (k : Ok d M as t (Cont d F pc pc' ls r Q)) : WP d F pc ls st t Q := by
  obtain ⟨N, o, t1, e, q⟩ := k
  have up : ∀ {pc ls st t}, WP d F pc ls st t Q → ∃ N' n' o t', N ≤ N' ∧ s_run (s_callB mTab N' d) F n' pc ls st t = some (o, t') ∧ Q o t' := fun ⟨N2, n2, o2, t2, e2, q2⟩ =>
    ⟨max N N2, n2, o2, t2, Nat.le_max_left _ _, s_run_mono (s_callB_mono (Nat.le_max_right _ _) (Nat.le_refl d)) (Nat.le_refl n2) e2, q2⟩
  match o, e, q with
  | .inl none, e, q =>
    obtain ⟨N', n', o', t', hN, e', q'⟩ := up q
    refine ⟨N', n' + 1, o', t', ?_, q'⟩
    rw [s_run, h]; dsimp only; rw [s_callB_mono hN (Nat.le_refl d) _ _ _ _ e]; exact e'
  | .inl (some v), e, q =>
    obtain ⟨N', n', o', t', hN, e', q'⟩ := up q
    refine ⟨N', n' + 1, o', t', ?_, q'⟩
    rw [s_run, h]; dsimp only; rw [s_callB_mono hN (Nat.le_refl d) _ _ _ _ e]; exact e'
  | .inr a, e, q =>
    unfold Cont at q
    dsimp only at q
    cases hf : s_find pc (lmK t1 a).1 F.2.2.2.1 with
    | none =>
      rw [hf] at q
      refine ⟨N, 1, .inr a, t1, ?_, q⟩
      rw [s_run, h]; dsimp only; rw [e]; dsimp only; rw [hf]
    | some k =>
      rw [hf] at q
      obtain ⟨N', n', o', t', hN, e', q'⟩ := up q
      refine ⟨N', n' + 1, o', t', ?_, q'⟩
      rw [s_run, h]; dsimp only; rw [s_callB_mono hN (Nat.le_refl d) _ _ _ _ e]; dsimp only; rw [hf]; exact e'
/-! numbers -/
def jshl (x y : Int32) : Int32 := x <<< (y &&& 31)
def jshr (x y : Int32) : Int32 := x >>> (y &&& 31)
def jushr (x y : Int32) : Int32 := (x.toUInt32 >>> (y.toUInt32 &&& Int32.toUInt32 31)).toInt32
def jrem (x y : Int32) : Int32 := x - x / y * y
def jmax (x y : Int32) : Int32 := if x < y then y else x
def jmin (x y : Int32) : Int32 := if y < x then y else x
def jrem8 (x y : Int64) : Int64 := x - x / y * y
def jmax8 (x y : Int64) : Int64 := if y < x then x else y
def forN {α : Type} (f : Nat → α → α) (a : α) : Nat → α
  | 0 => a
  | n + 1 => f n (forN f a n)
theorem WP.cg {d : Nat} {F : Lf} {pc : Nat} {ls ls' st st' : List Value} {t t' : Lm} {Q : Lo → Lm → Prop} (h : WP d F pc ls' st' t' Q) (e1 : ls = ls') (e3 : st = st') (e2 : t = t') : WP d F pc ls st t Q := by subst e1; subst e2; subst e3; exact h
theorem lI1 {a b : Int32} {r q : List Value} (h : a = b) (hr : r = q) : Value.int a :: r = Value.int b :: q := by subst h; subst hr; rfl
theorem lL1 {a b : Int64} {r q : List Value} (h : a = b) (hr : r = q) : Value.long a :: r = Value.long b :: q := by subst h; subst hr; rfl
theorem lC1 {a : Value} {r q : List Value} (hr : r = q) : a :: r = a :: q := by subst hr; rfl
theorem mI1 {K : Nat → Nat × Nat} {I J : Nat → Nat → Int32} {L : Nat → Nat → Int64} {R : Nat → Nat → Option Nat} {n s : Nat} (h : I = J) : ((K, I, L, R, n, s) : Lm) = (K, J, L, R, n, s) := by subst h; rfl
section WPR
variable {d : Nat} {F : Lf} {pc pc' k len : Nat} {z : Int} {ts : List Nat} {ls st r : List Value} {t : Lm} {Q : Lo → Lm → Prop}
theorem wp_iconst {v : Int32} (hc : lc_at pc F.2.2.2.2.2 = some ((0, 0, k, z, ts), len)) (hv : Int32.ofInt z = v) (hp : pc + len = pc') (kk : WP d F pc' ls (.int v :: st) t Q) : WP d F pc ls st t Q := by
  subst hp
  exact WP.go (by unfold s_step; rw [hc]; subst hv; rfl) kk
theorem wp_bipush {v : Int32} (hc : lc_at pc F.2.2.2.2.2 = some ((0, 1, k, z, ts), len)) (hv : (Int8.ofInt z).toInt32 = v) (hp : pc + len = pc') (kk : WP d F pc' ls (.int v :: st) t Q) : WP d F pc ls st t Q := by
  subst hp
  exact WP.go (by unfold s_step; rw [hc]; subst hv; rfl) kk
theorem wp_sipush {v : Int32} (hc : lc_at pc F.2.2.2.2.2 = some ((0, 2, k, z, ts), len)) (hv : (Int16.ofInt z).toInt32 = v) (hp : pc + len = pc') (kk : WP d F pc' ls (.int v :: st) t Q) : WP d F pc ls st t Q := by
  subst hp
  exact WP.go (by unfold s_step; rw [hc]; subst hv; rfl) kk
theorem wp_lconst {v : Int64} (hc : lc_at pc F.2.2.2.2.2 = some ((0, 3, k, z, ts), len)) (hv : Int64.ofNat k = v) (hp : pc + len = pc') (kk : WP d F pc' ls (.long v :: st) t Q) : WP d F pc ls st t Q := by
  subst hp
  exact WP.go (by unfold s_step; rw [hc]; subst hv; rfl) kk
theorem wp_null (hc : lc_at pc F.2.2.2.2.2 = some ((0, 4, k, z, ts), len)) (hp : pc + len = pc') (kk : WP d F pc' ls (.null :: st) t Q) : WP d F pc ls st t Q := by
  subst hp
  exact WP.go (by unfold s_step; rw [hc]; rfl) kk
theorem wp_iload0 {tl : List Value} {x : Int32} (hc : lc_at pc F.2.2.2.2.2 = some ((1, 0, 0, z, ts), len)) (hp : pc + len = pc') (kk : WP d F pc' (.int x :: tl) (.int x :: st) t Q) : WP d F pc (.int x :: tl) st t Q := by
  subst hp
  exact WP.go (by unfold s_step; rw [hc]; rfl) kk
theorem wp_lload0 {tl : List Value} {x : Int64} (hc : lc_at pc F.2.2.2.2.2 = some ((1, 1, 0, z, ts), len)) (hp : pc + len = pc') (kk : WP d F pc' (.long x :: tl) (.long x :: st) t Q) : WP d F pc (.long x :: tl) st t Q := by
  subst hp
  exact WP.go (by unfold s_step; rw [hc]; rfl) kk
theorem wp_aload0 {tl : List Value} {x : Nat} (hc : lc_at pc F.2.2.2.2.2 = some ((1, 2, 0, z, ts), len)) (hp : pc + len = pc') (kk : WP d F pc' (.ref x :: tl) (.ref x :: st) t Q) : WP d F pc (.ref x :: tl) st t Q := by
  subst hp
  exact WP.go (by unfold s_step; rw [hc]; rfl) kk
theorem wp_istore0 {tl : List Value} {x : Int32} {b : Value} (hc : lc_at pc F.2.2.2.2.2 = some ((2, 0, 0, z, ts), len)) (hp : pc + len = pc') (kk : WP d F pc' (.int x :: tl) r t Q) : WP d F pc (b :: tl) (.int x :: r) t Q := by
  subst hp
  refine WP.go (ls' := .int x :: tl) ?_ kk
  unfold s_step; rw [hc]
  show (s_store 0 0 (b :: tl) (.int x)).bind (fun ls' => xGo (pc + len) ls' r t) = _
  have e : s_store 0 0 (b :: tl) (.int x) = some (.int x :: tl) := by
    have hb : Nat.blt 0 (b :: tl).length = true := by rw [Nat.blt_eq]; simp only [List.length_cons]; omega
    unfold s_store
    simp only [hb, s_fit, isI, isA, cond_true]
    rfl
  rw [e]; rfl
theorem wp_astore0 {tl : List Value} {x : Nat} {b : Value} (hc : lc_at pc F.2.2.2.2.2 = some ((2, 2, 0, z, ts), len)) (hp : pc + len = pc') (kk : WP d F pc' (.ref x :: tl) r t Q) : WP d F pc (b :: tl) (.ref x :: r) t Q := by
  subst hp
  refine WP.go (ls' := .ref x :: tl) ?_ kk
  unfold s_step; rw [hc]
  show (s_store 2 0 (b :: tl) (.ref x)).bind (fun ls' => xGo (pc + len) ls' r t) = _
  have e : s_store 2 0 (b :: tl) (.ref x) = some (.ref x :: tl) := by
    have hb : Nat.blt 0 (b :: tl).length = true := by rw [Nat.blt_eq]; simp only [List.length_cons]; omega
    unfold s_store
    simp only [hb, s_fit, isI, isA, cond_true]
    rfl
  rw [e]; rfl
theorem wp_lstore0 {tl : List Value} {x : Int64} {b b2 : Value} (hc : lc_at pc F.2.2.2.2.2 = some ((2, 1, 0, z, ts), len)) (hp : pc + len = pc') (kk : WP d F pc' (.long x :: lDead :: tl) r t Q) : WP d F pc (b :: b2 :: tl) (.long x :: r) t Q := by
  subst hp
  refine WP.go (ls' := .long x :: lDead :: tl) ?_ kk
  unfold s_step; rw [hc]
  show (s_store 1 0 (b :: b2 :: tl) (.long x)).bind (fun ls' => xGo (pc + len) ls' r t) = _
  have e : s_store 1 0 (b :: b2 :: tl) (.long x) = some (.long x :: lDead :: tl) := by
    have hb : Nat.blt (0 + 1) (b :: b2 :: tl).length = true := by rw [Nat.blt_eq]; simp only [List.length_cons]; omega
    unfold s_store
    simp only [hb, s_fit, cond_true]
    rfl
  rw [e]; rfl
theorem wp_iinc0 {tl : List Value} {x v w : Int32} (hc : lc_at pc F.2.2.2.2.2 = some ((3, 0, 0, z, ts), len)) (hw : Int32.ofInt z = w) (hv : x + w = v) (hp : pc + len = pc') (kk : WP d F pc' (.int v :: tl) st t Q) : WP d F pc (.int x :: tl) st t Q := by
  subst hp; subst hw; subst hv
  refine WP.go ?_ kk
  unfold s_step; rw [hc]
  show (match (.int x :: tl)[0]? with | some (.int x) => xGo (pc + len) (lSet (.int _ :: tl) 0 (.int (x + Int32.ofInt z))) st t | _ => none) = _
  simp only [List.getElem?_cons_succ, List.getElem?_cons_zero]
  unfold lSet lClr
  rfl
theorem wp_iload1 {a0 : Value} {tl : List Value} {x : Int32} (hc : lc_at pc F.2.2.2.2.2 = some ((1, 0, 1, z, ts), len)) (hp : pc + len = pc') (kk : WP d F pc' (a0 :: .int x :: tl) (.int x :: st) t Q) : WP d F pc (a0 :: .int x :: tl) st t Q := by
  subst hp
  exact WP.go (by unfold s_step; rw [hc]; rfl) kk
theorem wp_lload1 {a0 : Value} {tl : List Value} {x : Int64} (hc : lc_at pc F.2.2.2.2.2 = some ((1, 1, 1, z, ts), len)) (hp : pc + len = pc') (kk : WP d F pc' (a0 :: .long x :: tl) (.long x :: st) t Q) : WP d F pc (a0 :: .long x :: tl) st t Q := by
  subst hp
  exact WP.go (by unfold s_step; rw [hc]; rfl) kk
theorem wp_aload1 {a0 : Value} {tl : List Value} {x : Nat} (hc : lc_at pc F.2.2.2.2.2 = some ((1, 2, 1, z, ts), len)) (hp : pc + len = pc') (kk : WP d F pc' (a0 :: .ref x :: tl) (.ref x :: st) t Q) : WP d F pc (a0 :: .ref x :: tl) st t Q := by
  subst hp
  exact WP.go (by unfold s_step; rw [hc]; rfl) kk
theorem wp_istore1 {a0 : Value} {tl : List Value} {x : Int32} {b : Value} (hc : lc_at pc F.2.2.2.2.2 = some ((2, 0, 1, z, ts), len)) (hl : isL a0 = false) (hp : pc + len = pc') (kk : WP d F pc' (a0 :: .int x :: tl) r t Q) : WP d F pc (a0 :: b :: tl) (.int x :: r) t Q := by
  subst hp
  refine WP.go (ls' := a0 :: .int x :: tl) ?_ kk
  unfold s_step; rw [hc]
  show (s_store 0 1 (a0 :: b :: tl) (.int x)).bind (fun ls' => xGo (pc + len) ls' r t) = _
  have e : s_store 0 1 (a0 :: b :: tl) (.int x) = some (a0 :: .int x :: tl) := by
    have hb : Nat.blt 1 (a0 :: b :: tl).length = true := by rw [Nat.blt_eq]; simp only [List.length_cons]; omega
    unfold s_store
    simp only [hb, s_fit, isI, isA, cond_true]
    show some (lSet _ _ _) = _; unfold lSet lClr; simp only [List.getElem?_cons_succ, List.getElem?_cons_zero, oL, hl, cond_false, List.set_cons_succ, List.set_cons_zero]
  rw [e]; rfl
theorem wp_astore1 {a0 : Value} {tl : List Value} {x : Nat} {b : Value} (hc : lc_at pc F.2.2.2.2.2 = some ((2, 2, 1, z, ts), len)) (hl : isL a0 = false) (hp : pc + len = pc') (kk : WP d F pc' (a0 :: .ref x :: tl) r t Q) : WP d F pc (a0 :: b :: tl) (.ref x :: r) t Q := by
  subst hp
  refine WP.go (ls' := a0 :: .ref x :: tl) ?_ kk
  unfold s_step; rw [hc]
  show (s_store 2 1 (a0 :: b :: tl) (.ref x)).bind (fun ls' => xGo (pc + len) ls' r t) = _
  have e : s_store 2 1 (a0 :: b :: tl) (.ref x) = some (a0 :: .ref x :: tl) := by
    have hb : Nat.blt 1 (a0 :: b :: tl).length = true := by rw [Nat.blt_eq]; simp only [List.length_cons]; omega
    unfold s_store
    simp only [hb, s_fit, isI, isA, cond_true]
    show some (lSet _ _ _) = _; unfold lSet lClr; simp only [List.getElem?_cons_succ, List.getElem?_cons_zero, oL, hl, cond_false, List.set_cons_succ, List.set_cons_zero]
  rw [e]; rfl
theorem wp_lstore1 {a0 : Value} {tl : List Value} {x : Int64} {b b2 : Value} (hc : lc_at pc F.2.2.2.2.2 = some ((2, 1, 1, z, ts), len)) (hl : isL a0 = false) (hp : pc + len = pc') (kk : WP d F pc' (a0 :: .long x :: lDead :: tl) r t Q) : WP d F pc (a0 :: b :: b2 :: tl) (.long x :: r) t Q := by
  subst hp
  refine WP.go (ls' := a0 :: .long x :: lDead :: tl) ?_ kk
  unfold s_step; rw [hc]
  show (s_store 1 1 (a0 :: b :: b2 :: tl) (.long x)).bind (fun ls' => xGo (pc + len) ls' r t) = _
  have e : s_store 1 1 (a0 :: b :: b2 :: tl) (.long x) = some (a0 :: .long x :: lDead :: tl) := by
    have hb : Nat.blt (1 + 1) (a0 :: b :: b2 :: tl).length = true := by rw [Nat.blt_eq]; simp only [List.length_cons]; omega
    unfold s_store
    simp only [hb, s_fit, cond_true]
    show some (lSet2 _ _ _) = _; unfold lSet2 lClr; simp only [List.getElem?_cons_succ, List.getElem?_cons_zero, oL, hl, cond_false, List.set_cons_succ, List.set_cons_zero]
  rw [e]; rfl
theorem wp_iinc1 {a0 : Value} {tl : List Value} {x v w : Int32} (hc : lc_at pc F.2.2.2.2.2 = some ((3, 0, 1, z, ts), len)) (hl : isL a0 = false) (hw : Int32.ofInt z = w) (hv : x + w = v) (hp : pc + len = pc') (kk : WP d F pc' (a0 :: .int v :: tl) st t Q) : WP d F pc (a0 :: .int x :: tl) st t Q := by
  subst hp; subst hw; subst hv
  refine WP.go ?_ kk
  unfold s_step; rw [hc]
  show (match (a0 :: .int x :: tl)[1]? with | some (.int x) => xGo (pc + len) (lSet (a0 :: .int _ :: tl) 1 (.int (x + Int32.ofInt z))) st t | _ => none) = _
  simp only [List.getElem?_cons_succ, List.getElem?_cons_zero]
  unfold lSet lClr
  simp only [List.getElem?_cons_succ, List.getElem?_cons_zero, oL, hl, cond_false, List.set_cons_succ, List.set_cons_zero]
theorem wp_iload2 {a0 a1 : Value} {tl : List Value} {x : Int32} (hc : lc_at pc F.2.2.2.2.2 = some ((1, 0, 2, z, ts), len)) (hp : pc + len = pc') (kk : WP d F pc' (a0 :: a1 :: .int x :: tl) (.int x :: st) t Q) : WP d F pc (a0 :: a1 :: .int x :: tl) st t Q := by
  subst hp
  exact WP.go (by unfold s_step; rw [hc]; rfl) kk
theorem wp_lload2 {a0 a1 : Value} {tl : List Value} {x : Int64} (hc : lc_at pc F.2.2.2.2.2 = some ((1, 1, 2, z, ts), len)) (hp : pc + len = pc') (kk : WP d F pc' (a0 :: a1 :: .long x :: tl) (.long x :: st) t Q) : WP d F pc (a0 :: a1 :: .long x :: tl) st t Q := by
  subst hp
  exact WP.go (by unfold s_step; rw [hc]; rfl) kk
theorem wp_aload2 {a0 a1 : Value} {tl : List Value} {x : Nat} (hc : lc_at pc F.2.2.2.2.2 = some ((1, 2, 2, z, ts), len)) (hp : pc + len = pc') (kk : WP d F pc' (a0 :: a1 :: .ref x :: tl) (.ref x :: st) t Q) : WP d F pc (a0 :: a1 :: .ref x :: tl) st t Q := by
  subst hp
  exact WP.go (by unfold s_step; rw [hc]; rfl) kk
theorem wp_istore2 {a0 a1 : Value} {tl : List Value} {x : Int32} {b : Value} (hc : lc_at pc F.2.2.2.2.2 = some ((2, 0, 2, z, ts), len)) (hl : isL a1 = false) (hp : pc + len = pc') (kk : WP d F pc' (a0 :: a1 :: .int x :: tl) r t Q) : WP d F pc (a0 :: a1 :: b :: tl) (.int x :: r) t Q := by
  subst hp
  refine WP.go (ls' := a0 :: a1 :: .int x :: tl) ?_ kk
  unfold s_step; rw [hc]
  show (s_store 0 2 (a0 :: a1 :: b :: tl) (.int x)).bind (fun ls' => xGo (pc + len) ls' r t) = _
  have e : s_store 0 2 (a0 :: a1 :: b :: tl) (.int x) = some (a0 :: a1 :: .int x :: tl) := by
    have hb : Nat.blt 2 (a0 :: a1 :: b :: tl).length = true := by rw [Nat.blt_eq]; simp only [List.length_cons]; omega
    unfold s_store
    simp only [hb, s_fit, isI, isA, cond_true]
    show some (lSet _ _ _) = _; unfold lSet lClr; simp only [List.getElem?_cons_succ, List.getElem?_cons_zero, oL, hl, cond_false, List.set_cons_succ, List.set_cons_zero]
  rw [e]; rfl
theorem wp_astore2 {a0 a1 : Value} {tl : List Value} {x : Nat} {b : Value} (hc : lc_at pc F.2.2.2.2.2 = some ((2, 2, 2, z, ts), len)) (hl : isL a1 = false) (hp : pc + len = pc') (kk : WP d F pc' (a0 :: a1 :: .ref x :: tl) r t Q) : WP d F pc (a0 :: a1 :: b :: tl) (.ref x :: r) t Q := by
  subst hp
  refine WP.go (ls' := a0 :: a1 :: .ref x :: tl) ?_ kk
  unfold s_step; rw [hc]
  show (s_store 2 2 (a0 :: a1 :: b :: tl) (.ref x)).bind (fun ls' => xGo (pc + len) ls' r t) = _
  have e : s_store 2 2 (a0 :: a1 :: b :: tl) (.ref x) = some (a0 :: a1 :: .ref x :: tl) := by
    have hb : Nat.blt 2 (a0 :: a1 :: b :: tl).length = true := by rw [Nat.blt_eq]; simp only [List.length_cons]; omega
    unfold s_store
    simp only [hb, s_fit, isI, isA, cond_true]
    show some (lSet _ _ _) = _; unfold lSet lClr; simp only [List.getElem?_cons_succ, List.getElem?_cons_zero, oL, hl, cond_false, List.set_cons_succ, List.set_cons_zero]
  rw [e]; rfl
theorem wp_lstore2 {a0 a1 : Value} {tl : List Value} {x : Int64} {b b2 : Value} (hc : lc_at pc F.2.2.2.2.2 = some ((2, 1, 2, z, ts), len)) (hl : isL a1 = false) (hp : pc + len = pc') (kk : WP d F pc' (a0 :: a1 :: .long x :: lDead :: tl) r t Q) : WP d F pc (a0 :: a1 :: b :: b2 :: tl) (.long x :: r) t Q := by
  subst hp
  refine WP.go (ls' := a0 :: a1 :: .long x :: lDead :: tl) ?_ kk
  unfold s_step; rw [hc]
  show (s_store 1 2 (a0 :: a1 :: b :: b2 :: tl) (.long x)).bind (fun ls' => xGo (pc + len) ls' r t) = _
  have e : s_store 1 2 (a0 :: a1 :: b :: b2 :: tl) (.long x) = some (a0 :: a1 :: .long x :: lDead :: tl) := by
    have hb : Nat.blt (2 + 1) (a0 :: a1 :: b :: b2 :: tl).length = true := by rw [Nat.blt_eq]; simp only [List.length_cons]; omega
    unfold s_store
    simp only [hb, s_fit, cond_true]
    show some (lSet2 _ _ _) = _; unfold lSet2 lClr; simp only [List.getElem?_cons_succ, List.getElem?_cons_zero, oL, hl, cond_false, List.set_cons_succ, List.set_cons_zero]
  rw [e]; rfl
theorem wp_iinc2 {a0 a1 : Value} {tl : List Value} {x v w : Int32} (hc : lc_at pc F.2.2.2.2.2 = some ((3, 0, 2, z, ts), len)) (hl : isL a1 = false) (hw : Int32.ofInt z = w) (hv : x + w = v) (hp : pc + len = pc') (kk : WP d F pc' (a0 :: a1 :: .int v :: tl) st t Q) : WP d F pc (a0 :: a1 :: .int x :: tl) st t Q := by
  subst hp; subst hw; subst hv
  refine WP.go ?_ kk
  unfold s_step; rw [hc]
  show (match (a0 :: a1 :: .int x :: tl)[2]? with | some (.int x) => xGo (pc + len) (lSet (a0 :: a1 :: .int _ :: tl) 2 (.int (x + Int32.ofInt z))) st t | _ => none) = _
  simp only [List.getElem?_cons_succ, List.getElem?_cons_zero]
  unfold lSet lClr
  simp only [List.getElem?_cons_succ, List.getElem?_cons_zero, oL, hl, cond_false, List.set_cons_succ, List.set_cons_zero]
theorem wp_iload3 {a0 a1 a2 : Value} {tl : List Value} {x : Int32} (hc : lc_at pc F.2.2.2.2.2 = some ((1, 0, 3, z, ts), len)) (hp : pc + len = pc') (kk : WP d F pc' (a0 :: a1 :: a2 :: .int x :: tl) (.int x :: st) t Q) : WP d F pc (a0 :: a1 :: a2 :: .int x :: tl) st t Q := by
  subst hp
  exact WP.go (by unfold s_step; rw [hc]; rfl) kk
theorem wp_lload3 {a0 a1 a2 : Value} {tl : List Value} {x : Int64} (hc : lc_at pc F.2.2.2.2.2 = some ((1, 1, 3, z, ts), len)) (hp : pc + len = pc') (kk : WP d F pc' (a0 :: a1 :: a2 :: .long x :: tl) (.long x :: st) t Q) : WP d F pc (a0 :: a1 :: a2 :: .long x :: tl) st t Q := by
  subst hp
  exact WP.go (by unfold s_step; rw [hc]; rfl) kk
theorem wp_aload3 {a0 a1 a2 : Value} {tl : List Value} {x : Nat} (hc : lc_at pc F.2.2.2.2.2 = some ((1, 2, 3, z, ts), len)) (hp : pc + len = pc') (kk : WP d F pc' (a0 :: a1 :: a2 :: .ref x :: tl) (.ref x :: st) t Q) : WP d F pc (a0 :: a1 :: a2 :: .ref x :: tl) st t Q := by
  subst hp
  exact WP.go (by unfold s_step; rw [hc]; rfl) kk
theorem wp_istore3 {a0 a1 a2 : Value} {tl : List Value} {x : Int32} {b : Value} (hc : lc_at pc F.2.2.2.2.2 = some ((2, 0, 3, z, ts), len)) (hl : isL a2 = false) (hp : pc + len = pc') (kk : WP d F pc' (a0 :: a1 :: a2 :: .int x :: tl) r t Q) : WP d F pc (a0 :: a1 :: a2 :: b :: tl) (.int x :: r) t Q := by
  subst hp
  refine WP.go (ls' := a0 :: a1 :: a2 :: .int x :: tl) ?_ kk
  unfold s_step; rw [hc]
  show (s_store 0 3 (a0 :: a1 :: a2 :: b :: tl) (.int x)).bind (fun ls' => xGo (pc + len) ls' r t) = _
  have e : s_store 0 3 (a0 :: a1 :: a2 :: b :: tl) (.int x) = some (a0 :: a1 :: a2 :: .int x :: tl) := by
    have hb : Nat.blt 3 (a0 :: a1 :: a2 :: b :: tl).length = true := by rw [Nat.blt_eq]; simp only [List.length_cons]; omega
    unfold s_store
    simp only [hb, s_fit, isI, isA, cond_true]
    show some (lSet _ _ _) = _; unfold lSet lClr; simp only [List.getElem?_cons_succ, List.getElem?_cons_zero, oL, hl, cond_false, List.set_cons_succ, List.set_cons_zero]
  rw [e]; rfl
theorem wp_astore3 {a0 a1 a2 : Value} {tl : List Value} {x : Nat} {b : Value} (hc : lc_at pc F.2.2.2.2.2 = some ((2, 2, 3, z, ts), len)) (hl : isL a2 = false) (hp : pc + len = pc') (kk : WP d F pc' (a0 :: a1 :: a2 :: .ref x :: tl) r t Q) : WP d F pc (a0 :: a1 :: a2 :: b :: tl) (.ref x :: r) t Q := by
  subst hp
  refine WP.go (ls' := a0 :: a1 :: a2 :: .ref x :: tl) ?_ kk
  unfold s_step; rw [hc]
  show (s_store 2 3 (a0 :: a1 :: a2 :: b :: tl) (.ref x)).bind (fun ls' => xGo (pc + len) ls' r t) = _
  have e : s_store 2 3 (a0 :: a1 :: a2 :: b :: tl) (.ref x) = some (a0 :: a1 :: a2 :: .ref x :: tl) := by
    have hb : Nat.blt 3 (a0 :: a1 :: a2 :: b :: tl).length = true := by rw [Nat.blt_eq]; simp only [List.length_cons]; omega
    unfold s_store
    simp only [hb, s_fit, isI, isA, cond_true]
    show some (lSet _ _ _) = _; unfold lSet lClr; simp only [List.getElem?_cons_succ, List.getElem?_cons_zero, oL, hl, cond_false, List.set_cons_succ, List.set_cons_zero]
  rw [e]; rfl
theorem wp_lstore3 {a0 a1 a2 : Value} {tl : List Value} {x : Int64} {b b2 : Value} (hc : lc_at pc F.2.2.2.2.2 = some ((2, 1, 3, z, ts), len)) (hl : isL a2 = false) (hp : pc + len = pc') (kk : WP d F pc' (a0 :: a1 :: a2 :: .long x :: lDead :: tl) r t Q) : WP d F pc (a0 :: a1 :: a2 :: b :: b2 :: tl) (.long x :: r) t Q := by
  subst hp
  refine WP.go (ls' := a0 :: a1 :: a2 :: .long x :: lDead :: tl) ?_ kk
  unfold s_step; rw [hc]
  show (s_store 1 3 (a0 :: a1 :: a2 :: b :: b2 :: tl) (.long x)).bind (fun ls' => xGo (pc + len) ls' r t) = _
  have e : s_store 1 3 (a0 :: a1 :: a2 :: b :: b2 :: tl) (.long x) = some (a0 :: a1 :: a2 :: .long x :: lDead :: tl) := by
    have hb : Nat.blt (3 + 1) (a0 :: a1 :: a2 :: b :: b2 :: tl).length = true := by rw [Nat.blt_eq]; simp only [List.length_cons]; omega
    unfold s_store
    simp only [hb, s_fit, cond_true]
    show some (lSet2 _ _ _) = _; unfold lSet2 lClr; simp only [List.getElem?_cons_succ, List.getElem?_cons_zero, oL, hl, cond_false, List.set_cons_succ, List.set_cons_zero]
  rw [e]; rfl
theorem wp_iinc3 {a0 a1 a2 : Value} {tl : List Value} {x v w : Int32} (hc : lc_at pc F.2.2.2.2.2 = some ((3, 0, 3, z, ts), len)) (hl : isL a2 = false) (hw : Int32.ofInt z = w) (hv : x + w = v) (hp : pc + len = pc') (kk : WP d F pc' (a0 :: a1 :: a2 :: .int v :: tl) st t Q) : WP d F pc (a0 :: a1 :: a2 :: .int x :: tl) st t Q := by
  subst hp; subst hw; subst hv
  refine WP.go ?_ kk
  unfold s_step; rw [hc]
  show (match (a0 :: a1 :: a2 :: .int x :: tl)[3]? with | some (.int x) => xGo (pc + len) (lSet (a0 :: a1 :: a2 :: .int _ :: tl) 3 (.int (x + Int32.ofInt z))) st t | _ => none) = _
  simp only [List.getElem?_cons_succ, List.getElem?_cons_zero]
  unfold lSet lClr
  simp only [List.getElem?_cons_succ, List.getElem?_cons_zero, oL, hl, cond_false, List.set_cons_succ, List.set_cons_zero]
theorem wp_iload4 {a0 a1 a2 a3 : Value} {tl : List Value} {x : Int32} (hc : lc_at pc F.2.2.2.2.2 = some ((1, 0, 4, z, ts), len)) (hp : pc + len = pc') (kk : WP d F pc' (a0 :: a1 :: a2 :: a3 :: .int x :: tl) (.int x :: st) t Q) : WP d F pc (a0 :: a1 :: a2 :: a3 :: .int x :: tl) st t Q := by
  subst hp
  exact WP.go (by unfold s_step; rw [hc]; rfl) kk
theorem wp_lload4 {a0 a1 a2 a3 : Value} {tl : List Value} {x : Int64} (hc : lc_at pc F.2.2.2.2.2 = some ((1, 1, 4, z, ts), len)) (hp : pc + len = pc') (kk : WP d F pc' (a0 :: a1 :: a2 :: a3 :: .long x :: tl) (.long x :: st) t Q) : WP d F pc (a0 :: a1 :: a2 :: a3 :: .long x :: tl) st t Q := by
  subst hp
  exact WP.go (by unfold s_step; rw [hc]; rfl) kk
theorem wp_aload4 {a0 a1 a2 a3 : Value} {tl : List Value} {x : Nat} (hc : lc_at pc F.2.2.2.2.2 = some ((1, 2, 4, z, ts), len)) (hp : pc + len = pc') (kk : WP d F pc' (a0 :: a1 :: a2 :: a3 :: .ref x :: tl) (.ref x :: st) t Q) : WP d F pc (a0 :: a1 :: a2 :: a3 :: .ref x :: tl) st t Q := by
  subst hp
  exact WP.go (by unfold s_step; rw [hc]; rfl) kk
theorem wp_istore4 {a0 a1 a2 a3 : Value} {tl : List Value} {x : Int32} {b : Value} (hc : lc_at pc F.2.2.2.2.2 = some ((2, 0, 4, z, ts), len)) (hl : isL a3 = false) (hp : pc + len = pc') (kk : WP d F pc' (a0 :: a1 :: a2 :: a3 :: .int x :: tl) r t Q) : WP d F pc (a0 :: a1 :: a2 :: a3 :: b :: tl) (.int x :: r) t Q := by
  subst hp
  refine WP.go (ls' := a0 :: a1 :: a2 :: a3 :: .int x :: tl) ?_ kk
  unfold s_step; rw [hc]
  show (s_store 0 4 (a0 :: a1 :: a2 :: a3 :: b :: tl) (.int x)).bind (fun ls' => xGo (pc + len) ls' r t) = _
  have e : s_store 0 4 (a0 :: a1 :: a2 :: a3 :: b :: tl) (.int x) = some (a0 :: a1 :: a2 :: a3 :: .int x :: tl) := by
    have hb : Nat.blt 4 (a0 :: a1 :: a2 :: a3 :: b :: tl).length = true := by rw [Nat.blt_eq]; simp only [List.length_cons]; omega
    unfold s_store
    simp only [hb, s_fit, isI, isA, cond_true]
    show some (lSet _ _ _) = _; unfold lSet lClr; simp only [List.getElem?_cons_succ, List.getElem?_cons_zero, oL, hl, cond_false, List.set_cons_succ, List.set_cons_zero]
  rw [e]; rfl
theorem wp_astore4 {a0 a1 a2 a3 : Value} {tl : List Value} {x : Nat} {b : Value} (hc : lc_at pc F.2.2.2.2.2 = some ((2, 2, 4, z, ts), len)) (hl : isL a3 = false) (hp : pc + len = pc') (kk : WP d F pc' (a0 :: a1 :: a2 :: a3 :: .ref x :: tl) r t Q) : WP d F pc (a0 :: a1 :: a2 :: a3 :: b :: tl) (.ref x :: r) t Q := by
  subst hp
  refine WP.go (ls' := a0 :: a1 :: a2 :: a3 :: .ref x :: tl) ?_ kk
  unfold s_step; rw [hc]
  show (s_store 2 4 (a0 :: a1 :: a2 :: a3 :: b :: tl) (.ref x)).bind (fun ls' => xGo (pc + len) ls' r t) = _
  have e : s_store 2 4 (a0 :: a1 :: a2 :: a3 :: b :: tl) (.ref x) = some (a0 :: a1 :: a2 :: a3 :: .ref x :: tl) := by
    have hb : Nat.blt 4 (a0 :: a1 :: a2 :: a3 :: b :: tl).length = true := by rw [Nat.blt_eq]; simp only [List.length_cons]; omega
    unfold s_store
    simp only [hb, s_fit, isI, isA, cond_true]
    show some (lSet _ _ _) = _; unfold lSet lClr; simp only [List.getElem?_cons_succ, List.getElem?_cons_zero, oL, hl, cond_false, List.set_cons_succ, List.set_cons_zero]
  rw [e]; rfl
theorem wp_lstore4 {a0 a1 a2 a3 : Value} {tl : List Value} {x : Int64} {b b2 : Value} (hc : lc_at pc F.2.2.2.2.2 = some ((2, 1, 4, z, ts), len)) (hl : isL a3 = false) (hp : pc + len = pc') (kk : WP d F pc' (a0 :: a1 :: a2 :: a3 :: .long x :: lDead :: tl) r t Q) : WP d F pc (a0 :: a1 :: a2 :: a3 :: b :: b2 :: tl) (.long x :: r) t Q := by
  subst hp
  refine WP.go (ls' := a0 :: a1 :: a2 :: a3 :: .long x :: lDead :: tl) ?_ kk
  unfold s_step; rw [hc]
  show (s_store 1 4 (a0 :: a1 :: a2 :: a3 :: b :: b2 :: tl) (.long x)).bind (fun ls' => xGo (pc + len) ls' r t) = _
  have e : s_store 1 4 (a0 :: a1 :: a2 :: a3 :: b :: b2 :: tl) (.long x) = some (a0 :: a1 :: a2 :: a3 :: .long x :: lDead :: tl) := by
    have hb : Nat.blt (4 + 1) (a0 :: a1 :: a2 :: a3 :: b :: b2 :: tl).length = true := by rw [Nat.blt_eq]; simp only [List.length_cons]; omega
    unfold s_store
    simp only [hb, s_fit, cond_true]
    show some (lSet2 _ _ _) = _; unfold lSet2 lClr; simp only [List.getElem?_cons_succ, List.getElem?_cons_zero, oL, hl, cond_false, List.set_cons_succ, List.set_cons_zero]
  rw [e]; rfl
theorem wp_iinc4 {a0 a1 a2 a3 : Value} {tl : List Value} {x v w : Int32} (hc : lc_at pc F.2.2.2.2.2 = some ((3, 0, 4, z, ts), len)) (hl : isL a3 = false) (hw : Int32.ofInt z = w) (hv : x + w = v) (hp : pc + len = pc') (kk : WP d F pc' (a0 :: a1 :: a2 :: a3 :: .int v :: tl) st t Q) : WP d F pc (a0 :: a1 :: a2 :: a3 :: .int x :: tl) st t Q := by
  subst hp; subst hw; subst hv
  refine WP.go ?_ kk
  unfold s_step; rw [hc]
  show (match (a0 :: a1 :: a2 :: a3 :: .int x :: tl)[4]? with | some (.int x) => xGo (pc + len) (lSet (a0 :: a1 :: a2 :: a3 :: .int _ :: tl) 4 (.int (x + Int32.ofInt z))) st t | _ => none) = _
  simp only [List.getElem?_cons_succ, List.getElem?_cons_zero]
  unfold lSet lClr
  simp only [List.getElem?_cons_succ, List.getElem?_cons_zero, oL, hl, cond_false, List.set_cons_succ, List.set_cons_zero]
theorem wp_iload5 {a0 a1 a2 a3 a4 : Value} {tl : List Value} {x : Int32} (hc : lc_at pc F.2.2.2.2.2 = some ((1, 0, 5, z, ts), len)) (hp : pc + len = pc') (kk : WP d F pc' (a0 :: a1 :: a2 :: a3 :: a4 :: .int x :: tl) (.int x :: st) t Q) : WP d F pc (a0 :: a1 :: a2 :: a3 :: a4 :: .int x :: tl) st t Q := by
  subst hp
  exact WP.go (by unfold s_step; rw [hc]; rfl) kk
theorem wp_lload5 {a0 a1 a2 a3 a4 : Value} {tl : List Value} {x : Int64} (hc : lc_at pc F.2.2.2.2.2 = some ((1, 1, 5, z, ts), len)) (hp : pc + len = pc') (kk : WP d F pc' (a0 :: a1 :: a2 :: a3 :: a4 :: .long x :: tl) (.long x :: st) t Q) : WP d F pc (a0 :: a1 :: a2 :: a3 :: a4 :: .long x :: tl) st t Q := by
  subst hp
  exact WP.go (by unfold s_step; rw [hc]; rfl) kk
theorem wp_aload5 {a0 a1 a2 a3 a4 : Value} {tl : List Value} {x : Nat} (hc : lc_at pc F.2.2.2.2.2 = some ((1, 2, 5, z, ts), len)) (hp : pc + len = pc') (kk : WP d F pc' (a0 :: a1 :: a2 :: a3 :: a4 :: .ref x :: tl) (.ref x :: st) t Q) : WP d F pc (a0 :: a1 :: a2 :: a3 :: a4 :: .ref x :: tl) st t Q := by
  subst hp
  exact WP.go (by unfold s_step; rw [hc]; rfl) kk
theorem wp_istore5 {a0 a1 a2 a3 a4 : Value} {tl : List Value} {x : Int32} {b : Value} (hc : lc_at pc F.2.2.2.2.2 = some ((2, 0, 5, z, ts), len)) (hl : isL a4 = false) (hp : pc + len = pc') (kk : WP d F pc' (a0 :: a1 :: a2 :: a3 :: a4 :: .int x :: tl) r t Q) : WP d F pc (a0 :: a1 :: a2 :: a3 :: a4 :: b :: tl) (.int x :: r) t Q := by
  subst hp
  refine WP.go (ls' := a0 :: a1 :: a2 :: a3 :: a4 :: .int x :: tl) ?_ kk
  unfold s_step; rw [hc]
  show (s_store 0 5 (a0 :: a1 :: a2 :: a3 :: a4 :: b :: tl) (.int x)).bind (fun ls' => xGo (pc + len) ls' r t) = _
  have e : s_store 0 5 (a0 :: a1 :: a2 :: a3 :: a4 :: b :: tl) (.int x) = some (a0 :: a1 :: a2 :: a3 :: a4 :: .int x :: tl) := by
    have hb : Nat.blt 5 (a0 :: a1 :: a2 :: a3 :: a4 :: b :: tl).length = true := by rw [Nat.blt_eq]; simp only [List.length_cons]; omega
    unfold s_store
    simp only [hb, s_fit, isI, isA, cond_true]
    show some (lSet _ _ _) = _; unfold lSet lClr; simp only [List.getElem?_cons_succ, List.getElem?_cons_zero, oL, hl, cond_false, List.set_cons_succ, List.set_cons_zero]
  rw [e]; rfl
theorem wp_astore5 {a0 a1 a2 a3 a4 : Value} {tl : List Value} {x : Nat} {b : Value} (hc : lc_at pc F.2.2.2.2.2 = some ((2, 2, 5, z, ts), len)) (hl : isL a4 = false) (hp : pc + len = pc') (kk : WP d F pc' (a0 :: a1 :: a2 :: a3 :: a4 :: .ref x :: tl) r t Q) : WP d F pc (a0 :: a1 :: a2 :: a3 :: a4 :: b :: tl) (.ref x :: r) t Q := by
  subst hp
  refine WP.go (ls' := a0 :: a1 :: a2 :: a3 :: a4 :: .ref x :: tl) ?_ kk
  unfold s_step; rw [hc]
  show (s_store 2 5 (a0 :: a1 :: a2 :: a3 :: a4 :: b :: tl) (.ref x)).bind (fun ls' => xGo (pc + len) ls' r t) = _
  have e : s_store 2 5 (a0 :: a1 :: a2 :: a3 :: a4 :: b :: tl) (.ref x) = some (a0 :: a1 :: a2 :: a3 :: a4 :: .ref x :: tl) := by
    have hb : Nat.blt 5 (a0 :: a1 :: a2 :: a3 :: a4 :: b :: tl).length = true := by rw [Nat.blt_eq]; simp only [List.length_cons]; omega
    unfold s_store
    simp only [hb, s_fit, isI, isA, cond_true]
    show some (lSet _ _ _) = _; unfold lSet lClr; simp only [List.getElem?_cons_succ, List.getElem?_cons_zero, oL, hl, cond_false, List.set_cons_succ, List.set_cons_zero]
  rw [e]; rfl
theorem wp_lstore5 {a0 a1 a2 a3 a4 : Value} {tl : List Value} {x : Int64} {b b2 : Value} (hc : lc_at pc F.2.2.2.2.2 = some ((2, 1, 5, z, ts), len)) (hl : isL a4 = false) (hp : pc + len = pc') (kk : WP d F pc' (a0 :: a1 :: a2 :: a3 :: a4 :: .long x :: lDead :: tl) r t Q) : WP d F pc (a0 :: a1 :: a2 :: a3 :: a4 :: b :: b2 :: tl) (.long x :: r) t Q := by
  subst hp
  refine WP.go (ls' := a0 :: a1 :: a2 :: a3 :: a4 :: .long x :: lDead :: tl) ?_ kk
  unfold s_step; rw [hc]
  show (s_store 1 5 (a0 :: a1 :: a2 :: a3 :: a4 :: b :: b2 :: tl) (.long x)).bind (fun ls' => xGo (pc + len) ls' r t) = _
  have e : s_store 1 5 (a0 :: a1 :: a2 :: a3 :: a4 :: b :: b2 :: tl) (.long x) = some (a0 :: a1 :: a2 :: a3 :: a4 :: .long x :: lDead :: tl) := by
    have hb : Nat.blt (5 + 1) (a0 :: a1 :: a2 :: a3 :: a4 :: b :: b2 :: tl).length = true := by rw [Nat.blt_eq]; simp only [List.length_cons]; omega
    unfold s_store
    simp only [hb, s_fit, cond_true]
    show some (lSet2 _ _ _) = _; unfold lSet2 lClr; simp only [List.getElem?_cons_succ, List.getElem?_cons_zero, oL, hl, cond_false, List.set_cons_succ, List.set_cons_zero]
  rw [e]; rfl
theorem wp_iinc5 {a0 a1 a2 a3 a4 : Value} {tl : List Value} {x v w : Int32} (hc : lc_at pc F.2.2.2.2.2 = some ((3, 0, 5, z, ts), len)) (hl : isL a4 = false) (hw : Int32.ofInt z = w) (hv : x + w = v) (hp : pc + len = pc') (kk : WP d F pc' (a0 :: a1 :: a2 :: a3 :: a4 :: .int v :: tl) st t Q) : WP d F pc (a0 :: a1 :: a2 :: a3 :: a4 :: .int x :: tl) st t Q := by
  subst hp; subst hw; subst hv
  refine WP.go ?_ kk
  unfold s_step; rw [hc]
  show (match (a0 :: a1 :: a2 :: a3 :: a4 :: .int x :: tl)[5]? with | some (.int x) => xGo (pc + len) (lSet (a0 :: a1 :: a2 :: a3 :: a4 :: .int _ :: tl) 5 (.int (x + Int32.ofInt z))) st t | _ => none) = _
  simp only [List.getElem?_cons_succ, List.getElem?_cons_zero]
  unfold lSet lClr
  simp only [List.getElem?_cons_succ, List.getElem?_cons_zero, oL, hl, cond_false, List.set_cons_succ, List.set_cons_zero]
theorem wp_iload6 {a0 a1 a2 a3 a4 a5 : Value} {tl : List Value} {x : Int32} (hc : lc_at pc F.2.2.2.2.2 = some ((1, 0, 6, z, ts), len)) (hp : pc + len = pc') (kk : WP d F pc' (a0 :: a1 :: a2 :: a3 :: a4 :: a5 :: .int x :: tl) (.int x :: st) t Q) : WP d F pc (a0 :: a1 :: a2 :: a3 :: a4 :: a5 :: .int x :: tl) st t Q := by
  subst hp
  exact WP.go (by unfold s_step; rw [hc]; rfl) kk
theorem wp_lload6 {a0 a1 a2 a3 a4 a5 : Value} {tl : List Value} {x : Int64} (hc : lc_at pc F.2.2.2.2.2 = some ((1, 1, 6, z, ts), len)) (hp : pc + len = pc') (kk : WP d F pc' (a0 :: a1 :: a2 :: a3 :: a4 :: a5 :: .long x :: tl) (.long x :: st) t Q) : WP d F pc (a0 :: a1 :: a2 :: a3 :: a4 :: a5 :: .long x :: tl) st t Q := by
  subst hp
  exact WP.go (by unfold s_step; rw [hc]; rfl) kk
theorem wp_aload6 {a0 a1 a2 a3 a4 a5 : Value} {tl : List Value} {x : Nat} (hc : lc_at pc F.2.2.2.2.2 = some ((1, 2, 6, z, ts), len)) (hp : pc + len = pc') (kk : WP d F pc' (a0 :: a1 :: a2 :: a3 :: a4 :: a5 :: .ref x :: tl) (.ref x :: st) t Q) : WP d F pc (a0 :: a1 :: a2 :: a3 :: a4 :: a5 :: .ref x :: tl) st t Q := by
  subst hp
  exact WP.go (by unfold s_step; rw [hc]; rfl) kk
theorem wp_istore6 {a0 a1 a2 a3 a4 a5 : Value} {tl : List Value} {x : Int32} {b : Value} (hc : lc_at pc F.2.2.2.2.2 = some ((2, 0, 6, z, ts), len)) (hl : isL a5 = false) (hp : pc + len = pc') (kk : WP d F pc' (a0 :: a1 :: a2 :: a3 :: a4 :: a5 :: .int x :: tl) r t Q) : WP d F pc (a0 :: a1 :: a2 :: a3 :: a4 :: a5 :: b :: tl) (.int x :: r) t Q := by
  subst hp
  refine WP.go (ls' := a0 :: a1 :: a2 :: a3 :: a4 :: a5 :: .int x :: tl) ?_ kk
  unfold s_step; rw [hc]
  show (s_store 0 6 (a0 :: a1 :: a2 :: a3 :: a4 :: a5 :: b :: tl) (.int x)).bind (fun ls' => xGo (pc + len) ls' r t) = _
  have e : s_store 0 6 (a0 :: a1 :: a2 :: a3 :: a4 :: a5 :: b :: tl) (.int x) = some (a0 :: a1 :: a2 :: a3 :: a4 :: a5 :: .int x :: tl) := by
    have hb : Nat.blt 6 (a0 :: a1 :: a2 :: a3 :: a4 :: a5 :: b :: tl).length = true := by rw [Nat.blt_eq]; simp only [List.length_cons]; omega
    unfold s_store
    simp only [hb, s_fit, isI, isA, cond_true]
    show some (lSet _ _ _) = _; unfold lSet lClr; simp only [List.getElem?_cons_succ, List.getElem?_cons_zero, oL, hl, cond_false, List.set_cons_succ, List.set_cons_zero]
  rw [e]; rfl
theorem wp_astore6 {a0 a1 a2 a3 a4 a5 : Value} {tl : List Value} {x : Nat} {b : Value} (hc : lc_at pc F.2.2.2.2.2 = some ((2, 2, 6, z, ts), len)) (hl : isL a5 = false) (hp : pc + len = pc') (kk : WP d F pc' (a0 :: a1 :: a2 :: a3 :: a4 :: a5 :: .ref x :: tl) r t Q) : WP d F pc (a0 :: a1 :: a2 :: a3 :: a4 :: a5 :: b :: tl) (.ref x :: r) t Q := by
  subst hp
  refine WP.go (ls' := a0 :: a1 :: a2 :: a3 :: a4 :: a5 :: .ref x :: tl) ?_ kk
  unfold s_step; rw [hc]
  show (s_store 2 6 (a0 :: a1 :: a2 :: a3 :: a4 :: a5 :: b :: tl) (.ref x)).bind (fun ls' => xGo (pc + len) ls' r t) = _
  have e : s_store 2 6 (a0 :: a1 :: a2 :: a3 :: a4 :: a5 :: b :: tl) (.ref x) = some (a0 :: a1 :: a2 :: a3 :: a4 :: a5 :: .ref x :: tl) := by
    have hb : Nat.blt 6 (a0 :: a1 :: a2 :: a3 :: a4 :: a5 :: b :: tl).length = true := by rw [Nat.blt_eq]; simp only [List.length_cons]; omega
    unfold s_store
    simp only [hb, s_fit, isI, isA, cond_true]
    show some (lSet _ _ _) = _; unfold lSet lClr; simp only [List.getElem?_cons_succ, List.getElem?_cons_zero, oL, hl, cond_false, List.set_cons_succ, List.set_cons_zero]
  rw [e]; rfl
theorem wp_lstore6 {a0 a1 a2 a3 a4 a5 : Value} {tl : List Value} {x : Int64} {b b2 : Value} (hc : lc_at pc F.2.2.2.2.2 = some ((2, 1, 6, z, ts), len)) (hl : isL a5 = false) (hp : pc + len = pc') (kk : WP d F pc' (a0 :: a1 :: a2 :: a3 :: a4 :: a5 :: .long x :: lDead :: tl) r t Q) : WP d F pc (a0 :: a1 :: a2 :: a3 :: a4 :: a5 :: b :: b2 :: tl) (.long x :: r) t Q := by
  subst hp
  refine WP.go (ls' := a0 :: a1 :: a2 :: a3 :: a4 :: a5 :: .long x :: lDead :: tl) ?_ kk
  unfold s_step; rw [hc]
  show (s_store 1 6 (a0 :: a1 :: a2 :: a3 :: a4 :: a5 :: b :: b2 :: tl) (.long x)).bind (fun ls' => xGo (pc + len) ls' r t) = _
  have e : s_store 1 6 (a0 :: a1 :: a2 :: a3 :: a4 :: a5 :: b :: b2 :: tl) (.long x) = some (a0 :: a1 :: a2 :: a3 :: a4 :: a5 :: .long x :: lDead :: tl) := by
    have hb : Nat.blt (6 + 1) (a0 :: a1 :: a2 :: a3 :: a4 :: a5 :: b :: b2 :: tl).length = true := by rw [Nat.blt_eq]; simp only [List.length_cons]; omega
    unfold s_store
    simp only [hb, s_fit, cond_true]
    show some (lSet2 _ _ _) = _; unfold lSet2 lClr; simp only [List.getElem?_cons_succ, List.getElem?_cons_zero, oL, hl, cond_false, List.set_cons_succ, List.set_cons_zero]
  rw [e]; rfl
theorem wp_iinc6 {a0 a1 a2 a3 a4 a5 : Value} {tl : List Value} {x v w : Int32} (hc : lc_at pc F.2.2.2.2.2 = some ((3, 0, 6, z, ts), len)) (hl : isL a5 = false) (hw : Int32.ofInt z = w) (hv : x + w = v) (hp : pc + len = pc') (kk : WP d F pc' (a0 :: a1 :: a2 :: a3 :: a4 :: a5 :: .int v :: tl) st t Q) : WP d F pc (a0 :: a1 :: a2 :: a3 :: a4 :: a5 :: .int x :: tl) st t Q := by
  subst hp; subst hw; subst hv
  refine WP.go ?_ kk
  unfold s_step; rw [hc]
  show (match (a0 :: a1 :: a2 :: a3 :: a4 :: a5 :: .int x :: tl)[6]? with | some (.int x) => xGo (pc + len) (lSet (a0 :: a1 :: a2 :: a3 :: a4 :: a5 :: .int _ :: tl) 6 (.int (x + Int32.ofInt z))) st t | _ => none) = _
  simp only [List.getElem?_cons_succ, List.getElem?_cons_zero]
  unfold lSet lClr
  simp only [List.getElem?_cons_succ, List.getElem?_cons_zero, oL, hl, cond_false, List.set_cons_succ, List.set_cons_zero]
theorem wp_iload7 {a0 a1 a2 a3 a4 a5 a6 : Value} {tl : List Value} {x : Int32} (hc : lc_at pc F.2.2.2.2.2 = some ((1, 0, 7, z, ts), len)) (hp : pc + len = pc') (kk : WP d F pc' (a0 :: a1 :: a2 :: a3 :: a4 :: a5 :: a6 :: .int x :: tl) (.int x :: st) t Q) : WP d F pc (a0 :: a1 :: a2 :: a3 :: a4 :: a5 :: a6 :: .int x :: tl) st t Q := by
  subst hp
  exact WP.go (by unfold s_step; rw [hc]; rfl) kk
theorem wp_lload7 {a0 a1 a2 a3 a4 a5 a6 : Value} {tl : List Value} {x : Int64} (hc : lc_at pc F.2.2.2.2.2 = some ((1, 1, 7, z, ts), len)) (hp : pc + len = pc') (kk : WP d F pc' (a0 :: a1 :: a2 :: a3 :: a4 :: a5 :: a6 :: .long x :: tl) (.long x :: st) t Q) : WP d F pc (a0 :: a1 :: a2 :: a3 :: a4 :: a5 :: a6 :: .long x :: tl) st t Q := by
  subst hp
  exact WP.go (by unfold s_step; rw [hc]; rfl) kk
theorem wp_aload7 {a0 a1 a2 a3 a4 a5 a6 : Value} {tl : List Value} {x : Nat} (hc : lc_at pc F.2.2.2.2.2 = some ((1, 2, 7, z, ts), len)) (hp : pc + len = pc') (kk : WP d F pc' (a0 :: a1 :: a2 :: a3 :: a4 :: a5 :: a6 :: .ref x :: tl) (.ref x :: st) t Q) : WP d F pc (a0 :: a1 :: a2 :: a3 :: a4 :: a5 :: a6 :: .ref x :: tl) st t Q := by
  subst hp
  exact WP.go (by unfold s_step; rw [hc]; rfl) kk
theorem wp_istore7 {a0 a1 a2 a3 a4 a5 a6 : Value} {tl : List Value} {x : Int32} {b : Value} (hc : lc_at pc F.2.2.2.2.2 = some ((2, 0, 7, z, ts), len)) (hl : isL a6 = false) (hp : pc + len = pc') (kk : WP d F pc' (a0 :: a1 :: a2 :: a3 :: a4 :: a5 :: a6 :: .int x :: tl) r t Q) : WP d F pc (a0 :: a1 :: a2 :: a3 :: a4 :: a5 :: a6 :: b :: tl) (.int x :: r) t Q := by
  subst hp
  refine WP.go (ls' := a0 :: a1 :: a2 :: a3 :: a4 :: a5 :: a6 :: .int x :: tl) ?_ kk
  unfold s_step; rw [hc]
  show (s_store 0 7 (a0 :: a1 :: a2 :: a3 :: a4 :: a5 :: a6 :: b :: tl) (.int x)).bind (fun ls' => xGo (pc + len) ls' r t) = _
  have e : s_store 0 7 (a0 :: a1 :: a2 :: a3 :: a4 :: a5 :: a6 :: b :: tl) (.int x) = some (a0 :: a1 :: a2 :: a3 :: a4 :: a5 :: a6 :: .int x :: tl) := by
    have hb : Nat.blt 7 (a0 :: a1 :: a2 :: a3 :: a4 :: a5 :: a6 :: b :: tl).length = true := by rw [Nat.blt_eq]; simp only [List.length_cons]; omega
    unfold s_store
    simp only [hb, s_fit, isI, isA, cond_true]
    show some (lSet _ _ _) = _; unfold lSet lClr; simp only [List.getElem?_cons_succ, List.getElem?_cons_zero, oL, hl, cond_false, List.set_cons_succ, List.set_cons_zero]
  rw [e]; rfl
theorem wp_astore7 {a0 a1 a2 a3 a4 a5 a6 : Value} {tl : List Value} {x : Nat} {b : Value} (hc : lc_at pc F.2.2.2.2.2 = some ((2, 2, 7, z, ts), len)) (hl : isL a6 = false) (hp : pc + len = pc') (kk : WP d F pc' (a0 :: a1 :: a2 :: a3 :: a4 :: a5 :: a6 :: .ref x :: tl) r t Q) : WP d F pc (a0 :: a1 :: a2 :: a3 :: a4 :: a5 :: a6 :: b :: tl) (.ref x :: r) t Q := by
  subst hp
  refine WP.go (ls' := a0 :: a1 :: a2 :: a3 :: a4 :: a5 :: a6 :: .ref x :: tl) ?_ kk
  unfold s_step; rw [hc]
  show (s_store 2 7 (a0 :: a1 :: a2 :: a3 :: a4 :: a5 :: a6 :: b :: tl) (.ref x)).bind (fun ls' => xGo (pc + len) ls' r t) = _
  have e : s_store 2 7 (a0 :: a1 :: a2 :: a3 :: a4 :: a5 :: a6 :: b :: tl) (.ref x) = some (a0 :: a1 :: a2 :: a3 :: a4 :: a5 :: a6 :: .ref x :: tl) := by
    have hb : Nat.blt 7 (a0 :: a1 :: a2 :: a3 :: a4 :: a5 :: a6 :: b :: tl).length = true := by rw [Nat.blt_eq]; simp only [List.length_cons]; omega
    unfold s_store
    simp only [hb, s_fit, isI, isA, cond_true]
    show some (lSet _ _ _) = _; unfold lSet lClr; simp only [List.getElem?_cons_succ, List.getElem?_cons_zero, oL, hl, cond_false, List.set_cons_succ, List.set_cons_zero]
  rw [e]; rfl
theorem wp_lstore7 {a0 a1 a2 a3 a4 a5 a6 : Value} {tl : List Value} {x : Int64} {b b2 : Value} (hc : lc_at pc F.2.2.2.2.2 = some ((2, 1, 7, z, ts), len)) (hl : isL a6 = false) (hp : pc + len = pc') (kk : WP d F pc' (a0 :: a1 :: a2 :: a3 :: a4 :: a5 :: a6 :: .long x :: lDead :: tl) r t Q) : WP d F pc (a0 :: a1 :: a2 :: a3 :: a4 :: a5 :: a6 :: b :: b2 :: tl) (.long x :: r) t Q := by
  subst hp
  refine WP.go (ls' := a0 :: a1 :: a2 :: a3 :: a4 :: a5 :: a6 :: .long x :: lDead :: tl) ?_ kk
  unfold s_step; rw [hc]
  show (s_store 1 7 (a0 :: a1 :: a2 :: a3 :: a4 :: a5 :: a6 :: b :: b2 :: tl) (.long x)).bind (fun ls' => xGo (pc + len) ls' r t) = _
  have e : s_store 1 7 (a0 :: a1 :: a2 :: a3 :: a4 :: a5 :: a6 :: b :: b2 :: tl) (.long x) = some (a0 :: a1 :: a2 :: a3 :: a4 :: a5 :: a6 :: .long x :: lDead :: tl) := by
    have hb : Nat.blt (7 + 1) (a0 :: a1 :: a2 :: a3 :: a4 :: a5 :: a6 :: b :: b2 :: tl).length = true := by rw [Nat.blt_eq]; simp only [List.length_cons]; omega
    unfold s_store
    simp only [hb, s_fit, cond_true]
    show some (lSet2 _ _ _) = _; unfold lSet2 lClr; simp only [List.getElem?_cons_succ, List.getElem?_cons_zero, oL, hl, cond_false, List.set_cons_succ, List.set_cons_zero]
  rw [e]; rfl
theorem wp_iinc7 {a0 a1 a2 a3 a4 a5 a6 : Value} {tl : List Value} {x v w : Int32} (hc : lc_at pc F.2.2.2.2.2 = some ((3, 0, 7, z, ts), len)) (hl : isL a6 = false) (hw : Int32.ofInt z = w) (hv : x + w = v) (hp : pc + len = pc') (kk : WP d F pc' (a0 :: a1 :: a2 :: a3 :: a4 :: a5 :: a6 :: .int v :: tl) st t Q) : WP d F pc (a0 :: a1 :: a2 :: a3 :: a4 :: a5 :: a6 :: .int x :: tl) st t Q := by
  subst hp; subst hw; subst hv
  refine WP.go ?_ kk
  unfold s_step; rw [hc]
  show (match (a0 :: a1 :: a2 :: a3 :: a4 :: a5 :: a6 :: .int x :: tl)[7]? with | some (.int x) => xGo (pc + len) (lSet (a0 :: a1 :: a2 :: a3 :: a4 :: a5 :: a6 :: .int _ :: tl) 7 (.int (x + Int32.ofInt z))) st t | _ => none) = _
  simp only [List.getElem?_cons_succ, List.getElem?_cons_zero]
  unfold lSet lClr
  simp only [List.getElem?_cons_succ, List.getElem?_cons_zero, oL, hl, cond_false, List.set_cons_succ, List.set_cons_zero]
theorem wp_iload8 {a0 a1 a2 a3 a4 a5 a6 a7 : Value} {tl : List Value} {x : Int32} (hc : lc_at pc F.2.2.2.2.2 = some ((1, 0, 8, z, ts), len)) (hp : pc + len = pc') (kk : WP d F pc' (a0 :: a1 :: a2 :: a3 :: a4 :: a5 :: a6 :: a7 :: .int x :: tl) (.int x :: st) t Q) : WP d F pc (a0 :: a1 :: a2 :: a3 :: a4 :: a5 :: a6 :: a7 :: .int x :: tl) st t Q := by
  subst hp
  exact WP.go (by unfold s_step; rw [hc]; rfl) kk
theorem wp_lload8 {a0 a1 a2 a3 a4 a5 a6 a7 : Value} {tl : List Value} {x : Int64} (hc : lc_at pc F.2.2.2.2.2 = some ((1, 1, 8, z, ts), len)) (hp : pc + len = pc') (kk : WP d F pc' (a0 :: a1 :: a2 :: a3 :: a4 :: a5 :: a6 :: a7 :: .long x :: tl) (.long x :: st) t Q) : WP d F pc (a0 :: a1 :: a2 :: a3 :: a4 :: a5 :: a6 :: a7 :: .long x :: tl) st t Q := by
  subst hp
  exact WP.go (by unfold s_step; rw [hc]; rfl) kk
theorem wp_aload8 {a0 a1 a2 a3 a4 a5 a6 a7 : Value} {tl : List Value} {x : Nat} (hc : lc_at pc F.2.2.2.2.2 = some ((1, 2, 8, z, ts), len)) (hp : pc + len = pc') (kk : WP d F pc' (a0 :: a1 :: a2 :: a3 :: a4 :: a5 :: a6 :: a7 :: .ref x :: tl) (.ref x :: st) t Q) : WP d F pc (a0 :: a1 :: a2 :: a3 :: a4 :: a5 :: a6 :: a7 :: .ref x :: tl) st t Q := by
  subst hp
  exact WP.go (by unfold s_step; rw [hc]; rfl) kk
theorem wp_istore8 {a0 a1 a2 a3 a4 a5 a6 a7 : Value} {tl : List Value} {x : Int32} {b : Value} (hc : lc_at pc F.2.2.2.2.2 = some ((2, 0, 8, z, ts), len)) (hl : isL a7 = false) (hp : pc + len = pc') (kk : WP d F pc' (a0 :: a1 :: a2 :: a3 :: a4 :: a5 :: a6 :: a7 :: .int x :: tl) r t Q) : WP d F pc (a0 :: a1 :: a2 :: a3 :: a4 :: a5 :: a6 :: a7 :: b :: tl) (.int x :: r) t Q := by
  subst hp
  refine WP.go (ls' := a0 :: a1 :: a2 :: a3 :: a4 :: a5 :: a6 :: a7 :: .int x :: tl) ?_ kk
  unfold s_step; rw [hc]
  show (s_store 0 8 (a0 :: a1 :: a2 :: a3 :: a4 :: a5 :: a6 :: a7 :: b :: tl) (.int x)).bind (fun ls' => xGo (pc + len) ls' r t) = _
  have e : s_store 0 8 (a0 :: a1 :: a2 :: a3 :: a4 :: a5 :: a6 :: a7 :: b :: tl) (.int x) = some (a0 :: a1 :: a2 :: a3 :: a4 :: a5 :: a6 :: a7 :: .int x :: tl) := by
    have hb : Nat.blt 8 (a0 :: a1 :: a2 :: a3 :: a4 :: a5 :: a6 :: a7 :: b :: tl).length = true := by rw [Nat.blt_eq]; simp only [List.length_cons]; omega
    unfold s_store
    simp only [hb, s_fit, isI, isA, cond_true]
    show some (lSet _ _ _) = _; unfold lSet lClr; simp only [List.getElem?_cons_succ, List.getElem?_cons_zero, oL, hl, cond_false, List.set_cons_succ, List.set_cons_zero]
  rw [e]; rfl
theorem wp_astore8 {a0 a1 a2 a3 a4 a5 a6 a7 : Value} {tl : List Value} {x : Nat} {b : Value} (hc : lc_at pc F.2.2.2.2.2 = some ((2, 2, 8, z, ts), len)) (hl : isL a7 = false) (hp : pc + len = pc') (kk : WP d F pc' (a0 :: a1 :: a2 :: a3 :: a4 :: a5 :: a6 :: a7 :: .ref x :: tl) r t Q) : WP d F pc (a0 :: a1 :: a2 :: a3 :: a4 :: a5 :: a6 :: a7 :: b :: tl) (.ref x :: r) t Q := by
  subst hp
  refine WP.go (ls' := a0 :: a1 :: a2 :: a3 :: a4 :: a5 :: a6 :: a7 :: .ref x :: tl) ?_ kk
  unfold s_step; rw [hc]
  show (s_store 2 8 (a0 :: a1 :: a2 :: a3 :: a4 :: a5 :: a6 :: a7 :: b :: tl) (.ref x)).bind (fun ls' => xGo (pc + len) ls' r t) = _
  have e : s_store 2 8 (a0 :: a1 :: a2 :: a3 :: a4 :: a5 :: a6 :: a7 :: b :: tl) (.ref x) = some (a0 :: a1 :: a2 :: a3 :: a4 :: a5 :: a6 :: a7 :: .ref x :: tl) := by
    have hb : Nat.blt 8 (a0 :: a1 :: a2 :: a3 :: a4 :: a5 :: a6 :: a7 :: b :: tl).length = true := by rw [Nat.blt_eq]; simp only [List.length_cons]; omega
    unfold s_store
    simp only [hb, s_fit, isI, isA, cond_true]
    show some (lSet _ _ _) = _; unfold lSet lClr; simp only [List.getElem?_cons_succ, List.getElem?_cons_zero, oL, hl, cond_false, List.set_cons_succ, List.set_cons_zero]
  rw [e]; rfl
theorem wp_lstore8 {a0 a1 a2 a3 a4 a5 a6 a7 : Value} {tl : List Value} {x : Int64} {b b2 : Value} (hc : lc_at pc F.2.2.2.2.2 = some ((2, 1, 8, z, ts), len)) (hl : isL a7 = false) (hp : pc + len = pc') (kk : WP d F pc' (a0 :: a1 :: a2 :: a3 :: a4 :: a5 :: a6 :: a7 :: .long x :: lDead :: tl) r t Q) : WP d F pc (a0 :: a1 :: a2 :: a3 :: a4 :: a5 :: a6 :: a7 :: b :: b2 :: tl) (.long x :: r) t Q := by
  subst hp
  refine WP.go (ls' := a0 :: a1 :: a2 :: a3 :: a4 :: a5 :: a6 :: a7 :: .long x :: lDead :: tl) ?_ kk
  unfold s_step; rw [hc]
  show (s_store 1 8 (a0 :: a1 :: a2 :: a3 :: a4 :: a5 :: a6 :: a7 :: b :: b2 :: tl) (.long x)).bind (fun ls' => xGo (pc + len) ls' r t) = _
  have e : s_store 1 8 (a0 :: a1 :: a2 :: a3 :: a4 :: a5 :: a6 :: a7 :: b :: b2 :: tl) (.long x) = some (a0 :: a1 :: a2 :: a3 :: a4 :: a5 :: a6 :: a7 :: .long x :: lDead :: tl) := by
    have hb : Nat.blt (8 + 1) (a0 :: a1 :: a2 :: a3 :: a4 :: a5 :: a6 :: a7 :: b :: b2 :: tl).length = true := by rw [Nat.blt_eq]; simp only [List.length_cons]; omega
    unfold s_store
    simp only [hb, s_fit, cond_true]
    show some (lSet2 _ _ _) = _; unfold lSet2 lClr; simp only [List.getElem?_cons_succ, List.getElem?_cons_zero, oL, hl, cond_false, List.set_cons_succ, List.set_cons_zero]
  rw [e]; rfl
theorem wp_iinc8 {a0 a1 a2 a3 a4 a5 a6 a7 : Value} {tl : List Value} {x v w : Int32} (hc : lc_at pc F.2.2.2.2.2 = some ((3, 0, 8, z, ts), len)) (hl : isL a7 = false) (hw : Int32.ofInt z = w) (hv : x + w = v) (hp : pc + len = pc') (kk : WP d F pc' (a0 :: a1 :: a2 :: a3 :: a4 :: a5 :: a6 :: a7 :: .int v :: tl) st t Q) : WP d F pc (a0 :: a1 :: a2 :: a3 :: a4 :: a5 :: a6 :: a7 :: .int x :: tl) st t Q := by
  subst hp; subst hw; subst hv
  refine WP.go ?_ kk
  unfold s_step; rw [hc]
  show (match (a0 :: a1 :: a2 :: a3 :: a4 :: a5 :: a6 :: a7 :: .int x :: tl)[8]? with | some (.int x) => xGo (pc + len) (lSet (a0 :: a1 :: a2 :: a3 :: a4 :: a5 :: a6 :: a7 :: .int _ :: tl) 8 (.int (x + Int32.ofInt z))) st t | _ => none) = _
  simp only [List.getElem?_cons_succ, List.getElem?_cons_zero]
  unfold lSet lClr
  simp only [List.getElem?_cons_succ, List.getElem?_cons_zero, oL, hl, cond_false, List.set_cons_succ, List.set_cons_zero]
theorem wp_iload9 {a0 a1 a2 a3 a4 a5 a6 a7 a8 : Value} {tl : List Value} {x : Int32} (hc : lc_at pc F.2.2.2.2.2 = some ((1, 0, 9, z, ts), len)) (hp : pc + len = pc') (kk : WP d F pc' (a0 :: a1 :: a2 :: a3 :: a4 :: a5 :: a6 :: a7 :: a8 :: .int x :: tl) (.int x :: st) t Q) : WP d F pc (a0 :: a1 :: a2 :: a3 :: a4 :: a5 :: a6 :: a7 :: a8 :: .int x :: tl) st t Q := by
  subst hp
  exact WP.go (by unfold s_step; rw [hc]; rfl) kk
theorem wp_lload9 {a0 a1 a2 a3 a4 a5 a6 a7 a8 : Value} {tl : List Value} {x : Int64} (hc : lc_at pc F.2.2.2.2.2 = some ((1, 1, 9, z, ts), len)) (hp : pc + len = pc') (kk : WP d F pc' (a0 :: a1 :: a2 :: a3 :: a4 :: a5 :: a6 :: a7 :: a8 :: .long x :: tl) (.long x :: st) t Q) : WP d F pc (a0 :: a1 :: a2 :: a3 :: a4 :: a5 :: a6 :: a7 :: a8 :: .long x :: tl) st t Q := by
  subst hp
  exact WP.go (by unfold s_step; rw [hc]; rfl) kk
theorem wp_aload9 {a0 a1 a2 a3 a4 a5 a6 a7 a8 : Value} {tl : List Value} {x : Nat} (hc : lc_at pc F.2.2.2.2.2 = some ((1, 2, 9, z, ts), len)) (hp : pc + len = pc') (kk : WP d F pc' (a0 :: a1 :: a2 :: a3 :: a4 :: a5 :: a6 :: a7 :: a8 :: .ref x :: tl) (.ref x :: st) t Q) : WP d F pc (a0 :: a1 :: a2 :: a3 :: a4 :: a5 :: a6 :: a7 :: a8 :: .ref x :: tl) st t Q := by
  subst hp
  exact WP.go (by unfold s_step; rw [hc]; rfl) kk
theorem wp_istore9 {a0 a1 a2 a3 a4 a5 a6 a7 a8 : Value} {tl : List Value} {x : Int32} {b : Value} (hc : lc_at pc F.2.2.2.2.2 = some ((2, 0, 9, z, ts), len)) (hl : isL a8 = false) (hp : pc + len = pc') (kk : WP d F pc' (a0 :: a1 :: a2 :: a3 :: a4 :: a5 :: a6 :: a7 :: a8 :: .int x :: tl) r t Q) : WP d F pc (a0 :: a1 :: a2 :: a3 :: a4 :: a5 :: a6 :: a7 :: a8 :: b :: tl) (.int x :: r) t Q := by
  subst hp
  refine WP.go (ls' := a0 :: a1 :: a2 :: a3 :: a4 :: a5 :: a6 :: a7 :: a8 :: .int x :: tl) ?_ kk
  unfold s_step; rw [hc]
  show (s_store 0 9 (a0 :: a1 :: a2 :: a3 :: a4 :: a5 :: a6 :: a7 :: a8 :: b :: tl) (.int x)).bind (fun ls' => xGo (pc + len) ls' r t) = _
  have e : s_store 0 9 (a0 :: a1 :: a2 :: a3 :: a4 :: a5 :: a6 :: a7 :: a8 :: b :: tl) (.int x) = some (a0 :: a1 :: a2 :: a3 :: a4 :: a5 :: a6 :: a7 :: a8 :: .int x :: tl) := by
    have hb : Nat.blt 9 (a0 :: a1 :: a2 :: a3 :: a4 :: a5 :: a6 :: a7 :: a8 :: b :: tl).length = true := by rw [Nat.blt_eq]; simp only [List.length_cons]; omega
    unfold s_store
    simp only [hb, s_fit, isI, isA, cond_true]
    show some (lSet _ _ _) = _; unfold lSet lClr; simp only [List.getElem?_cons_succ, List.getElem?_cons_zero, oL, hl, cond_false, List.set_cons_succ, List.set_cons_zero]
  rw [e]; rfl
theorem wp_astore9 {a0 a1 a2 a3 a4 a5 a6 a7 a8 : Value} {tl : List Value} {x : Nat} {b : Value} (hc : lc_at pc F.2.2.2.2.2 = some ((2, 2, 9, z, ts), len)) (hl : isL a8 = false) (hp : pc + len = pc') (kk : WP d F pc' (a0 :: a1 :: a2 :: a3 :: a4 :: a5 :: a6 :: a7 :: a8 :: .ref x :: tl) r t Q) : WP d F pc (a0 :: a1 :: a2 :: a3 :: a4 :: a5 :: a6 :: a7 :: a8 :: b :: tl) (.ref x :: r) t Q := by
  subst hp
  refine WP.go (ls' := a0 :: a1 :: a2 :: a3 :: a4 :: a5 :: a6 :: a7 :: a8 :: .ref x :: tl) ?_ kk
  unfold s_step; rw [hc]
  show (s_store 2 9 (a0 :: a1 :: a2 :: a3 :: a4 :: a5 :: a6 :: a7 :: a8 :: b :: tl) (.ref x)).bind (fun ls' => xGo (pc + len) ls' r t) = _
  have e : s_store 2 9 (a0 :: a1 :: a2 :: a3 :: a4 :: a5 :: a6 :: a7 :: a8 :: b :: tl) (.ref x) = some (a0 :: a1 :: a2 :: a3 :: a4 :: a5 :: a6 :: a7 :: a8 :: .ref x :: tl) := by
    have hb : Nat.blt 9 (a0 :: a1 :: a2 :: a3 :: a4 :: a5 :: a6 :: a7 :: a8 :: b :: tl).length = true := by rw [Nat.blt_eq]; simp only [List.length_cons]; omega
    unfold s_store
    simp only [hb, s_fit, isI, isA, cond_true]
    show some (lSet _ _ _) = _; unfold lSet lClr; simp only [List.getElem?_cons_succ, List.getElem?_cons_zero, oL, hl, cond_false, List.set_cons_succ, List.set_cons_zero]
  rw [e]; rfl
theorem wp_lstore9 {a0 a1 a2 a3 a4 a5 a6 a7 a8 : Value} {tl : List Value} {x : Int64} {b b2 : Value} (hc : lc_at pc F.2.2.2.2.2 = some ((2, 1, 9, z, ts), len)) (hl : isL a8 = false) (hp : pc + len = pc') (kk : WP d F pc' (a0 :: a1 :: a2 :: a3 :: a4 :: a5 :: a6 :: a7 :: a8 :: .long x :: lDead :: tl) r t Q) : WP d F pc (a0 :: a1 :: a2 :: a3 :: a4 :: a5 :: a6 :: a7 :: a8 :: b :: b2 :: tl) (.long x :: r) t Q := by
  subst hp
  refine WP.go (ls' := a0 :: a1 :: a2 :: a3 :: a4 :: a5 :: a6 :: a7 :: a8 :: .long x :: lDead :: tl) ?_ kk
  unfold s_step; rw [hc]
  show (s_store 1 9 (a0 :: a1 :: a2 :: a3 :: a4 :: a5 :: a6 :: a7 :: a8 :: b :: b2 :: tl) (.long x)).bind (fun ls' => xGo (pc + len) ls' r t) = _
  have e : s_store 1 9 (a0 :: a1 :: a2 :: a3 :: a4 :: a5 :: a6 :: a7 :: a8 :: b :: b2 :: tl) (.long x) = some (a0 :: a1 :: a2 :: a3 :: a4 :: a5 :: a6 :: a7 :: a8 :: .long x :: lDead :: tl) := by
    have hb : Nat.blt (9 + 1) (a0 :: a1 :: a2 :: a3 :: a4 :: a5 :: a6 :: a7 :: a8 :: b :: b2 :: tl).length = true := by rw [Nat.blt_eq]; simp only [List.length_cons]; omega
    unfold s_store
    simp only [hb, s_fit, cond_true]
    show some (lSet2 _ _ _) = _; unfold lSet2 lClr; simp only [List.getElem?_cons_succ, List.getElem?_cons_zero, oL, hl, cond_false, List.set_cons_succ, List.set_cons_zero]
  rw [e]; rfl
theorem wp_iinc9 {a0 a1 a2 a3 a4 a5 a6 a7 a8 : Value} {tl : List Value} {x v w : Int32} (hc : lc_at pc F.2.2.2.2.2 = some ((3, 0, 9, z, ts), len)) (hl : isL a8 = false) (hw : Int32.ofInt z = w) (hv : x + w = v) (hp : pc + len = pc') (kk : WP d F pc' (a0 :: a1 :: a2 :: a3 :: a4 :: a5 :: a6 :: a7 :: a8 :: .int v :: tl) st t Q) : WP d F pc (a0 :: a1 :: a2 :: a3 :: a4 :: a5 :: a6 :: a7 :: a8 :: .int x :: tl) st t Q := by
  subst hp; subst hw; subst hv
  refine WP.go ?_ kk
  unfold s_step; rw [hc]
  show (match (a0 :: a1 :: a2 :: a3 :: a4 :: a5 :: a6 :: a7 :: a8 :: .int x :: tl)[9]? with | some (.int x) => xGo (pc + len) (lSet (a0 :: a1 :: a2 :: a3 :: a4 :: a5 :: a6 :: a7 :: a8 :: .int _ :: tl) 9 (.int (x + Int32.ofInt z))) st t | _ => none) = _
  simp only [List.getElem?_cons_succ, List.getElem?_cons_zero]
  unfold lSet lClr
  simp only [List.getElem?_cons_succ, List.getElem?_cons_zero, oL, hl, cond_false, List.set_cons_succ, List.set_cons_zero]
theorem wp_iload10 {a0 a1 a2 a3 a4 a5 a6 a7 a8 a9 : Value} {tl : List Value} {x : Int32} (hc : lc_at pc F.2.2.2.2.2 = some ((1, 0, 10, z, ts), len)) (hp : pc + len = pc') (kk : WP d F pc' (a0 :: a1 :: a2 :: a3 :: a4 :: a5 :: a6 :: a7 :: a8 :: a9 :: .int x :: tl) (.int x :: st) t Q) : WP d F pc (a0 :: a1 :: a2 :: a3 :: a4 :: a5 :: a6 :: a7 :: a8 :: a9 :: .int x :: tl) st t Q := by
  subst hp
  exact WP.go (by unfold s_step; rw [hc]; rfl) kk
theorem wp_lload10 {a0 a1 a2 a3 a4 a5 a6 a7 a8 a9 : Value} {tl : List Value} {x : Int64} (hc : lc_at pc F.2.2.2.2.2 = some ((1, 1, 10, z, ts), len)) (hp : pc + len = pc') (kk : WP d F pc' (a0 :: a1 :: a2 :: a3 :: a4 :: a5 :: a6 :: a7 :: a8 :: a9 :: .long x :: tl) (.long x :: st) t Q) : WP d F pc (a0 :: a1 :: a2 :: a3 :: a4 :: a5 :: a6 :: a7 :: a8 :: a9 :: .long x :: tl) st t Q := by
  subst hp
  exact WP.go (by unfold s_step; rw [hc]; rfl) kk
theorem wp_aload10 {a0 a1 a2 a3 a4 a5 a6 a7 a8 a9 : Value} {tl : List Value} {x : Nat} (hc : lc_at pc F.2.2.2.2.2 = some ((1, 2, 10, z, ts), len)) (hp : pc + len = pc') (kk : WP d F pc' (a0 :: a1 :: a2 :: a3 :: a4 :: a5 :: a6 :: a7 :: a8 :: a9 :: .ref x :: tl) (.ref x :: st) t Q) : WP d F pc (a0 :: a1 :: a2 :: a3 :: a4 :: a5 :: a6 :: a7 :: a8 :: a9 :: .ref x :: tl) st t Q := by
  subst hp
  exact WP.go (by unfold s_step; rw [hc]; rfl) kk
theorem wp_istore10 {a0 a1 a2 a3 a4 a5 a6 a7 a8 a9 : Value} {tl : List Value} {x : Int32} {b : Value} (hc : lc_at pc F.2.2.2.2.2 = some ((2, 0, 10, z, ts), len)) (hl : isL a9 = false) (hp : pc + len = pc') (kk : WP d F pc' (a0 :: a1 :: a2 :: a3 :: a4 :: a5 :: a6 :: a7 :: a8 :: a9 :: .int x :: tl) r t Q) : WP d F pc (a0 :: a1 :: a2 :: a3 :: a4 :: a5 :: a6 :: a7 :: a8 :: a9 :: b :: tl) (.int x :: r) t Q := by
  subst hp
  refine WP.go (ls' := a0 :: a1 :: a2 :: a3 :: a4 :: a5 :: a6 :: a7 :: a8 :: a9 :: .int x :: tl) ?_ kk
  unfold s_step; rw [hc]
  show (s_store 0 10 (a0 :: a1 :: a2 :: a3 :: a4 :: a5 :: a6 :: a7 :: a8 :: a9 :: b :: tl) (.int x)).bind (fun ls' => xGo (pc + len) ls' r t) = _
  have e : s_store 0 10 (a0 :: a1 :: a2 :: a3 :: a4 :: a5 :: a6 :: a7 :: a8 :: a9 :: b :: tl) (.int x) = some (a0 :: a1 :: a2 :: a3 :: a4 :: a5 :: a6 :: a7 :: a8 :: a9 :: .int x :: tl) := by
    have hb : Nat.blt 10 (a0 :: a1 :: a2 :: a3 :: a4 :: a5 :: a6 :: a7 :: a8 :: a9 :: b :: tl).length = true := by rw [Nat.blt_eq]; simp only [List.length_cons]; omega
    unfold s_store
    simp only [hb, s_fit, isI, isA, cond_true]
    show some (lSet _ _ _) = _; unfold lSet lClr; simp only [List.getElem?_cons_succ, List.getElem?_cons_zero, oL, hl, cond_false, List.set_cons_succ, List.set_cons_zero]
  rw [e]; rfl
theorem wp_astore10 {a0 a1 a2 a3 a4 a5 a6 a7 a8 a9 : Value} {tl : List Value} {x : Nat} {b : Value} (hc : lc_at pc F.2.2.2.2.2 = some ((2, 2, 10, z, ts), len)) (hl : isL a9 = false) (hp : pc + len = pc') (kk : WP d F pc' (a0 :: a1 :: a2 :: a3 :: a4 :: a5 :: a6 :: a7 :: a8 :: a9 :: .ref x :: tl) r t Q) : WP d F pc (a0 :: a1 :: a2 :: a3 :: a4 :: a5 :: a6 :: a7 :: a8 :: a9 :: b :: tl) (.ref x :: r) t Q := by
  subst hp
  refine WP.go (ls' := a0 :: a1 :: a2 :: a3 :: a4 :: a5 :: a6 :: a7 :: a8 :: a9 :: .ref x :: tl) ?_ kk
  unfold s_step; rw [hc]
  show (s_store 2 10 (a0 :: a1 :: a2 :: a3 :: a4 :: a5 :: a6 :: a7 :: a8 :: a9 :: b :: tl) (.ref x)).bind (fun ls' => xGo (pc + len) ls' r t) = _
  have e : s_store 2 10 (a0 :: a1 :: a2 :: a3 :: a4 :: a5 :: a6 :: a7 :: a8 :: a9 :: b :: tl) (.ref x) = some (a0 :: a1 :: a2 :: a3 :: a4 :: a5 :: a6 :: a7 :: a8 :: a9 :: .ref x :: tl) := by
    have hb : Nat.blt 10 (a0 :: a1 :: a2 :: a3 :: a4 :: a5 :: a6 :: a7 :: a8 :: a9 :: b :: tl).length = true := by rw [Nat.blt_eq]; simp only [List.length_cons]; omega
    unfold s_store
    simp only [hb, s_fit, isI, isA, cond_true]
    show some (lSet _ _ _) = _; unfold lSet lClr; simp only [List.getElem?_cons_succ, List.getElem?_cons_zero, oL, hl, cond_false, List.set_cons_succ, List.set_cons_zero]
  rw [e]; rfl
theorem wp_lstore10 {a0 a1 a2 a3 a4 a5 a6 a7 a8 a9 : Value} {tl : List Value} {x : Int64} {b b2 : Value} (hc : lc_at pc F.2.2.2.2.2 = some ((2, 1, 10, z, ts), len)) (hl : isL a9 = false) (hp : pc + len = pc') (kk : WP d F pc' (a0 :: a1 :: a2 :: a3 :: a4 :: a5 :: a6 :: a7 :: a8 :: a9 :: .long x :: lDead :: tl) r t Q) : WP d F pc (a0 :: a1 :: a2 :: a3 :: a4 :: a5 :: a6 :: a7 :: a8 :: a9 :: b :: b2 :: tl) (.long x :: r) t Q := by
  subst hp
  refine WP.go (ls' := a0 :: a1 :: a2 :: a3 :: a4 :: a5 :: a6 :: a7 :: a8 :: a9 :: .long x :: lDead :: tl) ?_ kk
  unfold s_step; rw [hc]
  show (s_store 1 10 (a0 :: a1 :: a2 :: a3 :: a4 :: a5 :: a6 :: a7 :: a8 :: a9 :: b :: b2 :: tl) (.long x)).bind (fun ls' => xGo (pc + len) ls' r t) = _
  have e : s_store 1 10 (a0 :: a1 :: a2 :: a3 :: a4 :: a5 :: a6 :: a7 :: a8 :: a9 :: b :: b2 :: tl) (.long x) = some (a0 :: a1 :: a2 :: a3 :: a4 :: a5 :: a6 :: a7 :: a8 :: a9 :: .long x :: lDead :: tl) := by
    have hb : Nat.blt (10 + 1) (a0 :: a1 :: a2 :: a3 :: a4 :: a5 :: a6 :: a7 :: a8 :: a9 :: b :: b2 :: tl).length = true := by rw [Nat.blt_eq]; simp only [List.length_cons]; omega
    unfold s_store
    simp only [hb, s_fit, cond_true]
    show some (lSet2 _ _ _) = _; unfold lSet2 lClr; simp only [List.getElem?_cons_succ, List.getElem?_cons_zero, oL, hl, cond_false, List.set_cons_succ, List.set_cons_zero]
  rw [e]; rfl
theorem wp_iinc10 {a0 a1 a2 a3 a4 a5 a6 a7 a8 a9 : Value} {tl : List Value} {x v w : Int32} (hc : lc_at pc F.2.2.2.2.2 = some ((3, 0, 10, z, ts), len)) (hl : isL a9 = false) (hw : Int32.ofInt z = w) (hv : x + w = v) (hp : pc + len = pc') (kk : WP d F pc' (a0 :: a1 :: a2 :: a3 :: a4 :: a5 :: a6 :: a7 :: a8 :: a9 :: .int v :: tl) st t Q) : WP d F pc (a0 :: a1 :: a2 :: a3 :: a4 :: a5 :: a6 :: a7 :: a8 :: a9 :: .int x :: tl) st t Q := by
  subst hp; subst hw; subst hv
  refine WP.go ?_ kk
  unfold s_step; rw [hc]
  show (match (a0 :: a1 :: a2 :: a3 :: a4 :: a5 :: a6 :: a7 :: a8 :: a9 :: .int x :: tl)[10]? with | some (.int x) => xGo (pc + len) (lSet (a0 :: a1 :: a2 :: a3 :: a4 :: a5 :: a6 :: a7 :: a8 :: a9 :: .int _ :: tl) 10 (.int (x + Int32.ofInt z))) st t | _ => none) = _
  simp only [List.getElem?_cons_succ, List.getElem?_cons_zero]
  unfold lSet lClr
  simp only [List.getElem?_cons_succ, List.getElem?_cons_zero, oL, hl, cond_false, List.set_cons_succ, List.set_cons_zero]
theorem wp_iload11 {a0 a1 a2 a3 a4 a5 a6 a7 a8 a9 a10 : Value} {tl : List Value} {x : Int32} (hc : lc_at pc F.2.2.2.2.2 = some ((1, 0, 11, z, ts), len)) (hp : pc + len = pc') (kk : WP d F pc' (a0 :: a1 :: a2 :: a3 :: a4 :: a5 :: a6 :: a7 :: a8 :: a9 :: a10 :: .int x :: tl) (.int x :: st) t Q) : WP d F pc (a0 :: a1 :: a2 :: a3 :: a4 :: a5 :: a6 :: a7 :: a8 :: a9 :: a10 :: .int x :: tl) st t Q := by
  subst hp
  exact WP.go (by unfold s_step; rw [hc]; rfl) kk
theorem wp_lload11 {a0 a1 a2 a3 a4 a5 a6 a7 a8 a9 a10 : Value} {tl : List Value} {x : Int64} (hc : lc_at pc F.2.2.2.2.2 = some ((1, 1, 11, z, ts), len)) (hp : pc + len = pc') (kk : WP d F pc' (a0 :: a1 :: a2 :: a3 :: a4 :: a5 :: a6 :: a7 :: a8 :: a9 :: a10 :: .long x :: tl) (.long x :: st) t Q) : WP d F pc (a0 :: a1 :: a2 :: a3 :: a4 :: a5 :: a6 :: a7 :: a8 :: a9 :: a10 :: .long x :: tl) st t Q := by
  subst hp
  exact WP.go (by unfold s_step; rw [hc]; rfl) kk
theorem wp_aload11 {a0 a1 a2 a3 a4 a5 a6 a7 a8 a9 a10 : Value} {tl : List Value} {x : Nat} (hc : lc_at pc F.2.2.2.2.2 = some ((1, 2, 11, z, ts), len)) (hp : pc + len = pc') (kk : WP d F pc' (a0 :: a1 :: a2 :: a3 :: a4 :: a5 :: a6 :: a7 :: a8 :: a9 :: a10 :: .ref x :: tl) (.ref x :: st) t Q) : WP d F pc (a0 :: a1 :: a2 :: a3 :: a4 :: a5 :: a6 :: a7 :: a8 :: a9 :: a10 :: .ref x :: tl) st t Q := by
  subst hp
  exact WP.go (by unfold s_step; rw [hc]; rfl) kk
theorem wp_istore11 {a0 a1 a2 a3 a4 a5 a6 a7 a8 a9 a10 : Value} {tl : List Value} {x : Int32} {b : Value} (hc : lc_at pc F.2.2.2.2.2 = some ((2, 0, 11, z, ts), len)) (hl : isL a10 = false) (hp : pc + len = pc') (kk : WP d F pc' (a0 :: a1 :: a2 :: a3 :: a4 :: a5 :: a6 :: a7 :: a8 :: a9 :: a10 :: .int x :: tl) r t Q) : WP d F pc (a0 :: a1 :: a2 :: a3 :: a4 :: a5 :: a6 :: a7 :: a8 :: a9 :: a10 :: b :: tl) (.int x :: r) t Q := by
  subst hp
  refine WP.go (ls' := a0 :: a1 :: a2 :: a3 :: a4 :: a5 :: a6 :: a7 :: a8 :: a9 :: a10 :: .int x :: tl) ?_ kk
  unfold s_step; rw [hc]
  show (s_store 0 11 (a0 :: a1 :: a2 :: a3 :: a4 :: a5 :: a6 :: a7 :: a8 :: a9 :: a10 :: b :: tl) (.int x)).bind (fun ls' => xGo (pc + len) ls' r t) = _
  have e : s_store 0 11 (a0 :: a1 :: a2 :: a3 :: a4 :: a5 :: a6 :: a7 :: a8 :: a9 :: a10 :: b :: tl) (.int x) = some (a0 :: a1 :: a2 :: a3 :: a4 :: a5 :: a6 :: a7 :: a8 :: a9 :: a10 :: .int x :: tl) := by
    have hb : Nat.blt 11 (a0 :: a1 :: a2 :: a3 :: a4 :: a5 :: a6 :: a7 :: a8 :: a9 :: a10 :: b :: tl).length = true := by rw [Nat.blt_eq]; simp only [List.length_cons]; omega
    unfold s_store
    simp only [hb, s_fit, isI, isA, cond_true]
    show some (lSet _ _ _) = _; unfold lSet lClr; simp only [List.getElem?_cons_succ, List.getElem?_cons_zero, oL, hl, cond_false, List.set_cons_succ, List.set_cons_zero]
  rw [e]; rfl
theorem wp_astore11 {a0 a1 a2 a3 a4 a5 a6 a7 a8 a9 a10 : Value} {tl : List Value} {x : Nat} {b : Value} (hc : lc_at pc F.2.2.2.2.2 = some ((2, 2, 11, z, ts), len)) (hl : isL a10 = false) (hp : pc + len = pc') (kk : WP d F pc' (a0 :: a1 :: a2 :: a3 :: a4 :: a5 :: a6 :: a7 :: a8 :: a9 :: a10 :: .ref x :: tl) r t Q) : WP d F pc (a0 :: a1 :: a2 :: a3 :: a4 :: a5 :: a6 :: a7 :: a8 :: a9 :: a10 :: b :: tl) (.ref x :: r) t Q := by
  subst hp
  refine WP.go (ls' := a0 :: a1 :: a2 :: a3 :: a4 :: a5 :: a6 :: a7 :: a8 :: a9 :: a10 :: .ref x :: tl) ?_ kk
  unfold s_step; rw [hc]
  show (s_store 2 11 (a0 :: a1 :: a2 :: a3 :: a4 :: a5 :: a6 :: a7 :: a8 :: a9 :: a10 :: b :: tl) (.ref x)).bind (fun ls' => xGo (pc + len) ls' r t) = _
  have e : s_store 2 11 (a0 :: a1 :: a2 :: a3 :: a4 :: a5 :: a6 :: a7 :: a8 :: a9 :: a10 :: b :: tl) (.ref x) = some (a0 :: a1 :: a2 :: a3 :: a4 :: a5 :: a6 :: a7 :: a8 :: a9 :: a10 :: .ref x :: tl) := by
    have hb : Nat.blt 11 (a0 :: a1 :: a2 :: a3 :: a4 :: a5 :: a6 :: a7 :: a8 :: a9 :: a10 :: b :: tl).length = true := by rw [Nat.blt_eq]; simp only [List.length_cons]; omega
    unfold s_store
    simp only [hb, s_fit, isI, isA, cond_true]
    show some (lSet _ _ _) = _; unfold lSet lClr; simp only [List.getElem?_cons_succ, List.getElem?_cons_zero, oL, hl, cond_false, List.set_cons_succ, List.set_cons_zero]
  rw [e]; rfl
theorem wp_iinc11 {a0 a1 a2 a3 a4 a5 a6 a7 a8 a9 a10 : Value} {tl : List Value} {x v w : Int32} (hc : lc_at pc F.2.2.2.2.2 = some ((3, 0, 11, z, ts), len)) (hl : isL a10 = false) (hw : Int32.ofInt z = w) (hv : x + w = v) (hp : pc + len = pc') (kk : WP d F pc' (a0 :: a1 :: a2 :: a3 :: a4 :: a5 :: a6 :: a7 :: a8 :: a9 :: a10 :: .int v :: tl) st t Q) : WP d F pc (a0 :: a1 :: a2 :: a3 :: a4 :: a5 :: a6 :: a7 :: a8 :: a9 :: a10 :: .int x :: tl) st t Q := by
  subst hp; subst hw; subst hv
  refine WP.go ?_ kk
  unfold s_step; rw [hc]
  show (match (a0 :: a1 :: a2 :: a3 :: a4 :: a5 :: a6 :: a7 :: a8 :: a9 :: a10 :: .int x :: tl)[11]? with | some (.int x) => xGo (pc + len) (lSet (a0 :: a1 :: a2 :: a3 :: a4 :: a5 :: a6 :: a7 :: a8 :: a9 :: a10 :: .int _ :: tl) 11 (.int (x + Int32.ofInt z))) st t | _ => none) = _
  simp only [List.getElem?_cons_succ, List.getElem?_cons_zero]
  unfold lSet lClr
  simp only [List.getElem?_cons_succ, List.getElem?_cons_zero, oL, hl, cond_false, List.set_cons_succ, List.set_cons_zero]
theorem wp_iadd {x y : Int32} (hc : lc_at pc F.2.2.2.2.2 = some ((4, 0, k, z, ts), len)) (hp : pc + len = pc') (kk : WP d F pc' ls (.int (x + y) :: r) t Q) : WP d F pc ls (.int y :: .int x :: r) t Q := by
  subst hp
  exact WP.go (by unfold s_step; rw [hc]; rfl) kk
theorem wp_isub {x y : Int32} (hc : lc_at pc F.2.2.2.2.2 = some ((4, 1, k, z, ts), len)) (hp : pc + len = pc') (kk : WP d F pc' ls (.int (x - y) :: r) t Q) : WP d F pc ls (.int y :: .int x :: r) t Q := by
  subst hp
  exact WP.go (by unfold s_step; rw [hc]; rfl) kk
theorem wp_imul {x y : Int32} (hc : lc_at pc F.2.2.2.2.2 = some ((4, 2, k, z, ts), len)) (hp : pc + len = pc') (kk : WP d F pc' ls (.int (x * y) :: r) t Q) : WP d F pc ls (.int y :: .int x :: r) t Q := by
  subst hp
  exact WP.go (by unfold s_step; rw [hc]; rfl) kk
theorem wp_idiv {x y : Int32} (hc : lc_at pc F.2.2.2.2.2 = some ((4, 3, k, z, ts), len)) (hy : ¬ y = nI 0) (hp : pc + len = pc') (kk : WP d F pc' ls (.int (x / y) :: r) t Q) : WP d F pc ls (.int y :: .int x :: r) t Q := by
  subst hp
  exact WP.go (by unfold s_step; rw [hc]; show ((if y = 0 then none else some (x / y)) : Option Int32).bind _ = _; rw [if_neg (show ¬ y = 0 from hy)]; rfl) kk
theorem wp_irem {x y : Int32} (hc : lc_at pc F.2.2.2.2.2 = some ((4, 4, k, z, ts), len)) (hy : ¬ y = nI 0) (hp : pc + len = pc') (kk : WP d F pc' ls (.int (jrem x y) :: r) t Q) : WP d F pc ls (.int y :: .int x :: r) t Q := by
  subst hp
  exact WP.go (by unfold s_step; rw [hc]; show ((if y = 0 then none else some (jrem x y)) : Option Int32).bind _ = _; rw [if_neg (show ¬ y = 0 from hy)]; rfl) kk
theorem wp_ishl {x y : Int32} (hc : lc_at pc F.2.2.2.2.2 = some ((4, 5, k, z, ts), len)) (hp : pc + len = pc') (kk : WP d F pc' ls (.int (jshl x y) :: r) t Q) : WP d F pc ls (.int y :: .int x :: r) t Q := by
  subst hp
  exact WP.go (by unfold s_step; rw [hc]; rfl) kk
theorem wp_ishr {x y : Int32} (hc : lc_at pc F.2.2.2.2.2 = some ((4, 6, k, z, ts), len)) (hp : pc + len = pc') (kk : WP d F pc' ls (.int (jshr x y) :: r) t Q) : WP d F pc ls (.int y :: .int x :: r) t Q := by
  subst hp
  exact WP.go (by unfold s_step; rw [hc]; rfl) kk
theorem wp_iushr {x y : Int32} (hc : lc_at pc F.2.2.2.2.2 = some ((4, 7, k, z, ts), len)) (hp : pc + len = pc') (kk : WP d F pc' ls (.int (jushr x y) :: r) t Q) : WP d F pc ls (.int y :: .int x :: r) t Q := by
  subst hp
  exact WP.go (by unfold s_step; rw [hc]; rfl) kk
theorem wp_iand {x y : Int32} (hc : lc_at pc F.2.2.2.2.2 = some ((4, 8, k, z, ts), len)) (hp : pc + len = pc') (kk : WP d F pc' ls (.int (x &&& y) :: r) t Q) : WP d F pc ls (.int y :: .int x :: r) t Q := by
  subst hp
  exact WP.go (by unfold s_step; rw [hc]; rfl) kk
theorem wp_ior {x y : Int32} (hc : lc_at pc F.2.2.2.2.2 = some ((4, 9, k, z, ts), len)) (hp : pc + len = pc') (kk : WP d F pc' ls (.int (x ||| y) :: r) t Q) : WP d F pc ls (.int y :: .int x :: r) t Q := by
  subst hp
  exact WP.go (by unfold s_step; rw [hc]; rfl) kk
theorem wp_ixor {x y : Int32} (hc : lc_at pc F.2.2.2.2.2 = some ((4, 10, k, z, ts), len)) (hp : pc + len = pc') (kk : WP d F pc' ls (.int (x ^^^ y) :: r) t Q) : WP d F pc ls (.int y :: .int x :: r) t Q := by
  subst hp
  exact WP.go (by unfold s_step; rw [hc]; rfl) kk
theorem wp_ladd {x y : Int64} (hc : lc_at pc F.2.2.2.2.2 = some ((5, 0, k, z, ts), len)) (hp : pc + len = pc') (kk : WP d F pc' ls (.long (x + y) :: r) t Q) : WP d F pc ls (.long y :: .long x :: r) t Q := by
  subst hp
  exact WP.go (by unfold s_step; rw [hc]; rfl) kk
theorem wp_lsub {x y : Int64} (hc : lc_at pc F.2.2.2.2.2 = some ((5, 1, k, z, ts), len)) (hp : pc + len = pc') (kk : WP d F pc' ls (.long (x - y) :: r) t Q) : WP d F pc ls (.long y :: .long x :: r) t Q := by
  subst hp
  exact WP.go (by unfold s_step; rw [hc]; rfl) kk
theorem wp_lmul {x y : Int64} (hc : lc_at pc F.2.2.2.2.2 = some ((5, 2, k, z, ts), len)) (hp : pc + len = pc') (kk : WP d F pc' ls (.long (x * y) :: r) t Q) : WP d F pc ls (.long y :: .long x :: r) t Q := by
  subst hp
  exact WP.go (by unfold s_step; rw [hc]; rfl) kk
theorem wp_ldiv {x y : Int64} (hc : lc_at pc F.2.2.2.2.2 = some ((5, 3, k, z, ts), len)) (hy : ¬ y = 0) (hp : pc + len = pc') (kk : WP d F pc' ls (.long (x / y) :: r) t Q) : WP d F pc ls (.long y :: .long x :: r) t Q := by
  subst hp
  exact WP.go (by unfold s_step; rw [hc]; show ((if y = 0 then none else some (.long (x / y))) : Option Value).bind _ = _; rw [if_neg hy]; rfl) kk
theorem wp_lrem {x y : Int64} (hc : lc_at pc F.2.2.2.2.2 = some ((5, 4, k, z, ts), len)) (hy : ¬ y = 0) (hp : pc + len = pc') (kk : WP d F pc' ls (.long (jrem8 x y) :: r) t Q) : WP d F pc ls (.long y :: .long x :: r) t Q := by
  subst hp
  exact WP.go (by unfold s_step; rw [hc]; show ((if y = 0 then none else some (.long (jrem8 x y))) : Option Value).bind _ = _; rw [if_neg hy]; rfl) kk
theorem wp_lcmp {x y : Int64} (hc : lc_at pc F.2.2.2.2.2 = some ((5, 5, k, z, ts), len)) (hp : pc + len = pc') (kk : WP d F pc' ls (.int (lg_cmp x y) :: r) t Q) : WP d F pc ls (.long y :: .long x :: r) t Q := by
  subst hp
  exact WP.go (by unfold s_step; rw [hc]; rfl) kk
theorem wp_ineg {x : Int32} (hc : lc_at pc F.2.2.2.2.2 = some ((6, 0, k, z, ts), len)) (hp : pc + len = pc') (kk : WP d F pc' ls (.int (-x) :: r) t Q) : WP d F pc ls (.int x :: r) t Q := by
  subst hp
  exact WP.go (by unfold s_step; rw [hc]; rfl) kk
theorem wp_i2l {x : Int32} (hc : lc_at pc F.2.2.2.2.2 = some ((6, 1, k, z, ts), len)) (hp : pc + len = pc') (kk : WP d F pc' ls (.long x.toInt64 :: r) t Q) : WP d F pc ls (.int x :: r) t Q := by
  subst hp
  exact WP.go (by unfold s_step; rw [hc]; rfl) kk
theorem wp_l2i {x : Int64} (hc : lc_at pc F.2.2.2.2.2 = some ((6, 2, k, z, ts), len)) (hp : pc + len = pc') (kk : WP d F pc' ls (.int x.toInt32 :: r) t Q) : WP d F pc ls (.long x :: r) t Q := by
  subst hp
  exact WP.go (by unfold s_step; rw [hc]; rfl) kk
theorem wp_i2b {x : Int32} (hc : lc_at pc F.2.2.2.2.2 = some ((6, 3, k, z, ts), len)) (hp : pc + len = pc') (kk : WP d F pc' ls (.int x.toInt8.toInt32 :: r) t Q) : WP d F pc ls (.int x :: r) t Q := by
  subst hp
  exact WP.go (by unfold s_step; rw [hc]; rfl) kk
theorem wp_i2c {x : Int32} (hc : lc_at pc F.2.2.2.2.2 = some ((6, 4, k, z, ts), len)) (hp : pc + len = pc') (kk : WP d F pc' ls (.int (x.toUInt32 % 65536).toInt32 :: r) t Q) : WP d F pc ls (.int x :: r) t Q := by
  subst hp
  exact WP.go (by unfold s_step; rw [hc]; rfl) kk
theorem wp_dup {a : Value} (hc : lc_at pc F.2.2.2.2.2 = some ((7, 0, k, z, ts), len)) (ha : isL a = false) (hp : pc + len = pc') (kk : WP d F pc' ls (a :: a :: r) t Q) : WP d F pc ls (a :: r) t Q := by
  subst hp
  exact WP.go (by unfold s_step; rw [hc]; show (bif isL a then none else some (a :: a :: r)).bind _ = _; rw [ha]; rfl) kk
theorem wp_pop {a : Value} (hc : lc_at pc F.2.2.2.2.2 = some ((7, 1, k, z, ts), len)) (ha : isL a = false) (hp : pc + len = pc') (kk : WP d F pc' ls r t Q) : WP d F pc ls (a :: r) t Q := by
  subst hp
  exact WP.go (by unfold s_step; rw [hc]; show (bif isL a then none else some r).bind _ = _; rw [ha]; rfl) kk
theorem wp_dup2 {a b : Value} (hc : lc_at pc F.2.2.2.2.2 = some ((7, 2, k, z, ts), len)) (ha : isL a = false) (hb : isL b = false) (hp : pc + len = pc') (kk : WP d F pc' ls (a :: b :: a :: b :: r) t Q) : WP d F pc ls (a :: b :: r) t Q := by
  subst hp
  exact WP.go (by unfold s_step; rw [hc]; show (bif isL a || isL b then none else some (a :: b :: a :: b :: r)).bind _ = _; rw [ha, hb]; rfl) kk
theorem wp_ifeqT {x : Int32} (hc : lc_at pc F.2.2.2.2.2 = some ((8, 0, k, z, ts), len)) (h : x = (nI 0)) (kt : WP d F k ls r t Q) : WP d F pc ls (.int x :: r) t Q := by
  have h : x = 0 := h
  exact WP.go (by unfold s_step; rw [hc]; show xGo (bif decide (x = 0) then k else pc + len) ls r t = _; rw [decide_eq_true h]; rfl) kt
theorem wp_ifeqF {x : Int32} (hc : lc_at pc F.2.2.2.2.2 = some ((8, 0, k, z, ts), len)) (h : ¬ x = (nI 0)) (hp : pc + len = pc') (kf : WP d F pc' ls r t Q) : WP d F pc ls (.int x :: r) t Q := by
  subst hp
  have h : ¬ (x = 0) := h
  exact WP.go (by unfold s_step; rw [hc]; show xGo (bif decide (x = 0) then k else pc + len) ls r t = _; rw [decide_eq_false h]; rfl) kf
theorem wp_ifeq {x : Int32} (hc : lc_at pc F.2.2.2.2.2 = some ((8, 0, k, z, ts), len)) (hp : pc + len = pc') (kt : x = (nI 0) → WP d F k ls r t Q) (kf : ¬ x = (nI 0) → WP d F pc' ls r t Q) : WP d F pc ls (.int x :: r) t Q := by
  by_cases h : x = 0
  · exact wp_ifeqT hc (h) (kt (h))
  · exact wp_ifeqF hc (h) hp (kf (h))
theorem wp_icmpeqT {x y : Int32} (hc : lc_at pc F.2.2.2.2.2 = some ((9, 0, k, z, ts), len)) (h : x = y) (kt : WP d F k ls r t Q) : WP d F pc ls (.int y :: .int x :: r) t Q := by
  have h : x = y := h
  exact WP.go (by unfold s_step; rw [hc]; show xGo (bif decide (x = y) then k else pc + len) ls r t = _; rw [decide_eq_true h]; rfl) kt
theorem wp_icmpeqF {x y : Int32} (hc : lc_at pc F.2.2.2.2.2 = some ((9, 0, k, z, ts), len)) (h : ¬ x = y) (hp : pc + len = pc') (kf : WP d F pc' ls r t Q) : WP d F pc ls (.int y :: .int x :: r) t Q := by
  subst hp
  have h : ¬ (x = y) := h
  exact WP.go (by unfold s_step; rw [hc]; show xGo (bif decide (x = y) then k else pc + len) ls r t = _; rw [decide_eq_false h]; rfl) kf
theorem wp_icmpeq {x y : Int32} (hc : lc_at pc F.2.2.2.2.2 = some ((9, 0, k, z, ts), len)) (hp : pc + len = pc') (kt : x = y → WP d F k ls r t Q) (kf : ¬ x = y → WP d F pc' ls r t Q) : WP d F pc ls (.int y :: .int x :: r) t Q := by
  by_cases h : x = y
  · exact wp_icmpeqT hc (h) (kt (h))
  · exact wp_icmpeqF hc (h) hp (kf (h))
theorem wp_ifneT {x : Int32} (hc : lc_at pc F.2.2.2.2.2 = some ((8, 1, k, z, ts), len)) (h : ¬ x = (nI 0)) (kt : WP d F k ls r t Q) : WP d F pc ls (.int x :: r) t Q := by
  have h : ¬ x = 0 := h
  exact WP.go (by unfold s_step; rw [hc]; show xGo (bif decide (¬ x = 0) then k else pc + len) ls r t = _; rw [decide_eq_true h]; rfl) kt
theorem wp_ifneF {x : Int32} (hc : lc_at pc F.2.2.2.2.2 = some ((8, 1, k, z, ts), len)) (h : x = (nI 0)) (hp : pc + len = pc') (kf : WP d F pc' ls r t Q) : WP d F pc ls (.int x :: r) t Q := by
  subst hp
  have h : ¬ (¬ x = 0) := not_not_intro h
  exact WP.go (by unfold s_step; rw [hc]; show xGo (bif decide (¬ x = 0) then k else pc + len) ls r t = _; rw [decide_eq_false h]; rfl) kf
theorem wp_ifne {x : Int32} (hc : lc_at pc F.2.2.2.2.2 = some ((8, 1, k, z, ts), len)) (hp : pc + len = pc') (kt : ¬ x = (nI 0) → WP d F k ls r t Q) (kf : x = (nI 0) → WP d F pc' ls r t Q) : WP d F pc ls (.int x :: r) t Q := by
  by_cases h : ¬ x = 0
  · exact wp_ifneT hc (h) (kt (h))
  · exact wp_ifneF hc (Decidable.not_not.mp h) hp (kf (Decidable.not_not.mp h))
theorem wp_icmpneT {x y : Int32} (hc : lc_at pc F.2.2.2.2.2 = some ((9, 1, k, z, ts), len)) (h : ¬ x = y) (kt : WP d F k ls r t Q) : WP d F pc ls (.int y :: .int x :: r) t Q := by
  have h : ¬ x = y := h
  exact WP.go (by unfold s_step; rw [hc]; show xGo (bif decide (¬ x = y) then k else pc + len) ls r t = _; rw [decide_eq_true h]; rfl) kt
theorem wp_icmpneF {x y : Int32} (hc : lc_at pc F.2.2.2.2.2 = some ((9, 1, k, z, ts), len)) (h : x = y) (hp : pc + len = pc') (kf : WP d F pc' ls r t Q) : WP d F pc ls (.int y :: .int x :: r) t Q := by
  subst hp
  have h : ¬ (¬ x = y) := not_not_intro h
  exact WP.go (by unfold s_step; rw [hc]; show xGo (bif decide (¬ x = y) then k else pc + len) ls r t = _; rw [decide_eq_false h]; rfl) kf
theorem wp_icmpne {x y : Int32} (hc : lc_at pc F.2.2.2.2.2 = some ((9, 1, k, z, ts), len)) (hp : pc + len = pc') (kt : ¬ x = y → WP d F k ls r t Q) (kf : x = y → WP d F pc' ls r t Q) : WP d F pc ls (.int y :: .int x :: r) t Q := by
  by_cases h : ¬ x = y
  · exact wp_icmpneT hc (h) (kt (h))
  · exact wp_icmpneF hc (Decidable.not_not.mp h) hp (kf (Decidable.not_not.mp h))
theorem wp_ifltT {x : Int32} (hc : lc_at pc F.2.2.2.2.2 = some ((8, 2, k, z, ts), len)) (h : x < (nI 0)) (kt : WP d F k ls r t Q) : WP d F pc ls (.int x :: r) t Q := by
  have h : x < 0 := h
  exact WP.go (by unfold s_step; rw [hc]; show xGo (bif decide (x < 0) then k else pc + len) ls r t = _; rw [decide_eq_true h]; rfl) kt
theorem wp_ifltF {x : Int32} (hc : lc_at pc F.2.2.2.2.2 = some ((8, 2, k, z, ts), len)) (h : ¬ x < (nI 0)) (hp : pc + len = pc') (kf : WP d F pc' ls r t Q) : WP d F pc ls (.int x :: r) t Q := by
  subst hp
  have h : ¬ (x < 0) := h
  exact WP.go (by unfold s_step; rw [hc]; show xGo (bif decide (x < 0) then k else pc + len) ls r t = _; rw [decide_eq_false h]; rfl) kf
theorem wp_iflt {x : Int32} (hc : lc_at pc F.2.2.2.2.2 = some ((8, 2, k, z, ts), len)) (hp : pc + len = pc') (kt : x < (nI 0) → WP d F k ls r t Q) (kf : ¬ x < (nI 0) → WP d F pc' ls r t Q) : WP d F pc ls (.int x :: r) t Q := by
  by_cases h : x < 0
  · exact wp_ifltT hc (h) (kt (h))
  · exact wp_ifltF hc (h) hp (kf (h))
theorem wp_icmpltT {x y : Int32} (hc : lc_at pc F.2.2.2.2.2 = some ((9, 2, k, z, ts), len)) (h : x < y) (kt : WP d F k ls r t Q) : WP d F pc ls (.int y :: .int x :: r) t Q := by
  have h : x < y := h
  exact WP.go (by unfold s_step; rw [hc]; show xGo (bif decide (x < y) then k else pc + len) ls r t = _; rw [decide_eq_true h]; rfl) kt
theorem wp_icmpltF {x y : Int32} (hc : lc_at pc F.2.2.2.2.2 = some ((9, 2, k, z, ts), len)) (h : ¬ x < y) (hp : pc + len = pc') (kf : WP d F pc' ls r t Q) : WP d F pc ls (.int y :: .int x :: r) t Q := by
  subst hp
  have h : ¬ (x < y) := h
  exact WP.go (by unfold s_step; rw [hc]; show xGo (bif decide (x < y) then k else pc + len) ls r t = _; rw [decide_eq_false h]; rfl) kf
theorem wp_icmplt {x y : Int32} (hc : lc_at pc F.2.2.2.2.2 = some ((9, 2, k, z, ts), len)) (hp : pc + len = pc') (kt : x < y → WP d F k ls r t Q) (kf : ¬ x < y → WP d F pc' ls r t Q) : WP d F pc ls (.int y :: .int x :: r) t Q := by
  by_cases h : x < y
  · exact wp_icmpltT hc (h) (kt (h))
  · exact wp_icmpltF hc (h) hp (kf (h))
theorem wp_ifgeT {x : Int32} (hc : lc_at pc F.2.2.2.2.2 = some ((8, 3, k, z, ts), len)) (h : ¬ x < (nI 0)) (kt : WP d F k ls r t Q) : WP d F pc ls (.int x :: r) t Q := by
  have h : 0 ≤ x := Int32.not_lt.mp h
  exact WP.go (by unfold s_step; rw [hc]; show xGo (bif decide (0 ≤ x) then k else pc + len) ls r t = _; rw [decide_eq_true h]; rfl) kt
theorem wp_ifgeF {x : Int32} (hc : lc_at pc F.2.2.2.2.2 = some ((8, 3, k, z, ts), len)) (h : x < (nI 0)) (hp : pc + len = pc') (kf : WP d F pc' ls r t Q) : WP d F pc ls (.int x :: r) t Q := by
  subst hp
  have h : ¬ (0 ≤ x) := Int32.not_le.mpr h
  exact WP.go (by unfold s_step; rw [hc]; show xGo (bif decide (0 ≤ x) then k else pc + len) ls r t = _; rw [decide_eq_false h]; rfl) kf
theorem wp_ifge {x : Int32} (hc : lc_at pc F.2.2.2.2.2 = some ((8, 3, k, z, ts), len)) (hp : pc + len = pc') (kt : ¬ x < (nI 0) → WP d F k ls r t Q) (kf : x < (nI 0) → WP d F pc' ls r t Q) : WP d F pc ls (.int x :: r) t Q := by
  by_cases h : 0 ≤ x
  · exact wp_ifgeT hc (Int32.not_lt.mpr h) (kt (Int32.not_lt.mpr h))
  · exact wp_ifgeF hc (Int32.not_le.mp h) hp (kf (Int32.not_le.mp h))
theorem wp_icmpgeT {x y : Int32} (hc : lc_at pc F.2.2.2.2.2 = some ((9, 3, k, z, ts), len)) (h : ¬ x < y) (kt : WP d F k ls r t Q) : WP d F pc ls (.int y :: .int x :: r) t Q := by
  have h : y ≤ x := Int32.not_lt.mp h
  exact WP.go (by unfold s_step; rw [hc]; show xGo (bif decide (y ≤ x) then k else pc + len) ls r t = _; rw [decide_eq_true h]; rfl) kt
theorem wp_icmpgeF {x y : Int32} (hc : lc_at pc F.2.2.2.2.2 = some ((9, 3, k, z, ts), len)) (h : x < y) (hp : pc + len = pc') (kf : WP d F pc' ls r t Q) : WP d F pc ls (.int y :: .int x :: r) t Q := by
  subst hp
  have h : ¬ (y ≤ x) := Int32.not_le.mpr h
  exact WP.go (by unfold s_step; rw [hc]; show xGo (bif decide (y ≤ x) then k else pc + len) ls r t = _; rw [decide_eq_false h]; rfl) kf
theorem wp_icmpge {x y : Int32} (hc : lc_at pc F.2.2.2.2.2 = some ((9, 3, k, z, ts), len)) (hp : pc + len = pc') (kt : ¬ x < y → WP d F k ls r t Q) (kf : x < y → WP d F pc' ls r t Q) : WP d F pc ls (.int y :: .int x :: r) t Q := by
  by_cases h : y ≤ x
  · exact wp_icmpgeT hc (Int32.not_lt.mpr h) (kt (Int32.not_lt.mpr h))
  · exact wp_icmpgeF hc (Int32.not_le.mp h) hp (kf (Int32.not_le.mp h))
theorem wp_ifgtT {x : Int32} (hc : lc_at pc F.2.2.2.2.2 = some ((8, 4, k, z, ts), len)) (h : (nI 0) < x) (kt : WP d F k ls r t Q) : WP d F pc ls (.int x :: r) t Q := by
  have h : 0 < x := h
  exact WP.go (by unfold s_step; rw [hc]; show xGo (bif decide (0 < x) then k else pc + len) ls r t = _; rw [decide_eq_true h]; rfl) kt
theorem wp_ifgtF {x : Int32} (hc : lc_at pc F.2.2.2.2.2 = some ((8, 4, k, z, ts), len)) (h : ¬ (nI 0) < x) (hp : pc + len = pc') (kf : WP d F pc' ls r t Q) : WP d F pc ls (.int x :: r) t Q := by
  subst hp
  have h : ¬ (0 < x) := h
  exact WP.go (by unfold s_step; rw [hc]; show xGo (bif decide (0 < x) then k else pc + len) ls r t = _; rw [decide_eq_false h]; rfl) kf
theorem wp_ifgt {x : Int32} (hc : lc_at pc F.2.2.2.2.2 = some ((8, 4, k, z, ts), len)) (hp : pc + len = pc') (kt : (nI 0) < x → WP d F k ls r t Q) (kf : ¬ (nI 0) < x → WP d F pc' ls r t Q) : WP d F pc ls (.int x :: r) t Q := by
  by_cases h : 0 < x
  · exact wp_ifgtT hc (h) (kt (h))
  · exact wp_ifgtF hc (h) hp (kf (h))
theorem wp_icmpgtT {x y : Int32} (hc : lc_at pc F.2.2.2.2.2 = some ((9, 4, k, z, ts), len)) (h : y < x) (kt : WP d F k ls r t Q) : WP d F pc ls (.int y :: .int x :: r) t Q := by
  have h : y < x := h
  exact WP.go (by unfold s_step; rw [hc]; show xGo (bif decide (y < x) then k else pc + len) ls r t = _; rw [decide_eq_true h]; rfl) kt
theorem wp_icmpgtF {x y : Int32} (hc : lc_at pc F.2.2.2.2.2 = some ((9, 4, k, z, ts), len)) (h : ¬ y < x) (hp : pc + len = pc') (kf : WP d F pc' ls r t Q) : WP d F pc ls (.int y :: .int x :: r) t Q := by
  subst hp
  have h : ¬ (y < x) := h
  exact WP.go (by unfold s_step; rw [hc]; show xGo (bif decide (y < x) then k else pc + len) ls r t = _; rw [decide_eq_false h]; rfl) kf
theorem wp_icmpgt {x y : Int32} (hc : lc_at pc F.2.2.2.2.2 = some ((9, 4, k, z, ts), len)) (hp : pc + len = pc') (kt : y < x → WP d F k ls r t Q) (kf : ¬ y < x → WP d F pc' ls r t Q) : WP d F pc ls (.int y :: .int x :: r) t Q := by
  by_cases h : y < x
  · exact wp_icmpgtT hc (h) (kt (h))
  · exact wp_icmpgtF hc (h) hp (kf (h))
theorem wp_ifleT {x : Int32} (hc : lc_at pc F.2.2.2.2.2 = some ((8, 5, k, z, ts), len)) (h : ¬ (nI 0) < x) (kt : WP d F k ls r t Q) : WP d F pc ls (.int x :: r) t Q := by
  have h : x ≤ 0 := Int32.not_lt.mp h
  exact WP.go (by unfold s_step; rw [hc]; show xGo (bif decide (x ≤ 0) then k else pc + len) ls r t = _; rw [decide_eq_true h]; rfl) kt
theorem wp_ifleF {x : Int32} (hc : lc_at pc F.2.2.2.2.2 = some ((8, 5, k, z, ts), len)) (h : (nI 0) < x) (hp : pc + len = pc') (kf : WP d F pc' ls r t Q) : WP d F pc ls (.int x :: r) t Q := by
  subst hp
  have h : ¬ (x ≤ 0) := Int32.not_le.mpr h
  exact WP.go (by unfold s_step; rw [hc]; show xGo (bif decide (x ≤ 0) then k else pc + len) ls r t = _; rw [decide_eq_false h]; rfl) kf
theorem wp_ifle {x : Int32} (hc : lc_at pc F.2.2.2.2.2 = some ((8, 5, k, z, ts), len)) (hp : pc + len = pc') (kt : ¬ (nI 0) < x → WP d F k ls r t Q) (kf : (nI 0) < x → WP d F pc' ls r t Q) : WP d F pc ls (.int x :: r) t Q := by
  by_cases h : x ≤ 0
  · exact wp_ifleT hc (Int32.not_lt.mpr h) (kt (Int32.not_lt.mpr h))
  · exact wp_ifleF hc (Int32.not_le.mp h) hp (kf (Int32.not_le.mp h))
theorem wp_icmpleT {x y : Int32} (hc : lc_at pc F.2.2.2.2.2 = some ((9, 5, k, z, ts), len)) (h : ¬ y < x) (kt : WP d F k ls r t Q) : WP d F pc ls (.int y :: .int x :: r) t Q := by
  have h : x ≤ y := Int32.not_lt.mp h
  exact WP.go (by unfold s_step; rw [hc]; show xGo (bif decide (x ≤ y) then k else pc + len) ls r t = _; rw [decide_eq_true h]; rfl) kt
theorem wp_icmpleF {x y : Int32} (hc : lc_at pc F.2.2.2.2.2 = some ((9, 5, k, z, ts), len)) (h : y < x) (hp : pc + len = pc') (kf : WP d F pc' ls r t Q) : WP d F pc ls (.int y :: .int x :: r) t Q := by
  subst hp
  have h : ¬ (x ≤ y) := Int32.not_le.mpr h
  exact WP.go (by unfold s_step; rw [hc]; show xGo (bif decide (x ≤ y) then k else pc + len) ls r t = _; rw [decide_eq_false h]; rfl) kf
theorem wp_icmple {x y : Int32} (hc : lc_at pc F.2.2.2.2.2 = some ((9, 5, k, z, ts), len)) (hp : pc + len = pc') (kt : ¬ y < x → WP d F k ls r t Q) (kf : y < x → WP d F pc' ls r t Q) : WP d F pc ls (.int y :: .int x :: r) t Q := by
  by_cases h : x ≤ y
  · exact wp_icmpleT hc (Int32.not_lt.mpr h) (kt (Int32.not_lt.mpr h))
  · exact wp_icmpleF hc (Int32.not_le.mp h) hp (kf (Int32.not_le.mp h))
theorem bI0 {p : Prop} [Decidable p] (h : (if p then nI 1 else nI 0) = nI 0) : ¬ p := fun q => by
  rw [if_pos q] at h; exact absurd h (by decide)
theorem bI1 {p : Prop} [Decidable p] (h : ¬ (if p then nI 1 else nI 0) = nI 0) : p := by
  by_cases q : p
  · exact q
  · rw [if_neg q] at h; exact absurd rfl h
/-- tests of a truth -/
theorem wp_ifeqB {p : Prop} [Decidable p] (hc : lc_at pc F.2.2.2.2.2 = some ((8, 0, k, z, ts), len)) (hp : pc + len = pc') (kt : ¬ p → WP d F k ls r t Q) (kf : p → WP d F pc' ls r t Q) : WP d F pc ls (.int (if p then nI 1 else nI 0) :: r) t Q :=
  wp_ifeq hc hp (fun h => kt (bI0 h)) (fun h => kf (bI1 h))
theorem wp_ifneB {p : Prop} [Decidable p] (hc : lc_at pc F.2.2.2.2.2 = some ((8, 1, k, z, ts), len)) (hp : pc + len = pc') (kt : p → WP d F k ls r t Q) (kf : ¬ p → WP d F pc' ls r t Q) : WP d F pc ls (.int (if p then nI 1 else nI 0) :: r) t Q :=
  wp_ifne hc hp (fun h => kt (bI1 h)) (fun h => kf (bI0 h))
theorem wp_goto (hc : lc_at pc F.2.2.2.2.2 = some ((10, 0, k, z, ts), len)) (kk : WP d F k ls st t Q) : WP d F pc ls st t Q := WP.go (by unfold s_step; rw [hc]; rfl) kk
theorem wp_ifnullN (hc : lc_at pc F.2.2.2.2.2 = some ((11, 0, k, z, ts), len)) (kk : WP d F k ls r t Q) : WP d F pc ls (.null :: r) t Q := WP.go (by unfold s_step; rw [hc]; rfl) kk
theorem wp_ifnullR {a : Nat} (hc : lc_at pc F.2.2.2.2.2 = some ((11, 0, k, z, ts), len)) (hp : pc + len = pc') (kk : WP d F pc' ls r t Q) : WP d F pc ls (.ref a :: r) t Q := by
  subst hp; exact WP.go (by unfold s_step; rw [hc]; rfl) kk
theorem wp_ifnonnullN (hc : lc_at pc F.2.2.2.2.2 = some ((11, 1, k, z, ts), len)) (hp : pc + len = pc') (kk : WP d F pc' ls r t Q) : WP d F pc ls (.null :: r) t Q := by
  subst hp; exact WP.go (by unfold s_step; rw [hc]; rfl) kk
theorem wp_ifnonnullR {a : Nat} (hc : lc_at pc F.2.2.2.2.2 = some ((11, 1, k, z, ts), len)) (kk : WP d F k ls r t Q) : WP d F pc ls (.ref a :: r) t Q := WP.go (by unfold s_step; rw [hc]; rfl) kk
theorem wp_sw {x : Int32} {tg : Nat} (hc : lc_at pc F.2.2.2.2.2 = some ((12, 0, k, z, ts), len)) (ht : s_sw x z k ts = tg) (kk : WP d F tg ls r t Q) : WP d F pc ls (.int x :: r) t Q := by
  subst ht; exact WP.go (by unfold s_step; rw [hc]; rfl) kk
theorem wp_pool {q : Lk} {v : Value} (hc : lc_at pc F.2.2.2.2.2 = some ((13, 0, k, z, ts), len)) (hl : F.2.2.2.2.1 k = some q) (hz : s_zt z q.1 = true) (hv : s_const q = some v) (hp : pc + len = pc') (kk : WP d F pc' ls (v :: st) t Q) : WP d F pc ls st t Q := by
  subst hp
  exact WP.go (by unfold s_step; rw [hc]; show (F.2.2.2.2.1 k).bind _ = _; rw [hl]; show (bif s_zt z q.1 then _ else _) = _; rw [hz]; show (s_const q).bind _ = _; rw [hv]; rfl) kk
variable {K : Nat → Nat × Nat} {I : Nat → Nat → Int32} {L : Nat → Nat → Int64} {Rf : Nat → Nat → Option Nat} {n s : Nat} {a : Nat}
theorem wp_getI {ci fk : Nat} (hc : lc_at pc F.2.2.2.2.2 = some ((14, 0, k, z, ts), len)) (hl : F.2.2.2.2.1 k = some (0, ci, fk)) (hk : (K a).1 = ci) (hp : pc + len = pc') (kk : WP d F pc' ls (.int (I a fk) :: r) (K, I, L, Rf, n, s) Q) : WP d F pc ls (.ref a :: r) (K, I, L, Rf, n, s) Q := by
  subst hp
  exact WP.go (by unfold s_step; rw [hc]; have hk1 : (lmK (K, I, L, Rf, n, s) a).1 = ci := hk; show (F.2.2.2.2.1 k).bind _ = _; rw [hl]; show (s_getf _ _ _).bind _ = _; unfold s_getf; dsimp only; rw [hk1, Nat.beq_refl]; rfl) kk
theorem wp_getZ {ci fk : Nat} (hc : lc_at pc F.2.2.2.2.2 = some ((14, 0, k, z, ts), len)) (hl : F.2.2.2.2.1 k = some (1, ci, fk)) (hk : (K a).1 = ci) (hp : pc + len = pc') (kk : WP d F pc' ls (.int (I a fk) :: r) (K, I, L, Rf, n, s) Q) : WP d F pc ls (.ref a :: r) (K, I, L, Rf, n, s) Q := by
  subst hp
  exact WP.go (by unfold s_step; rw [hc]; have hk1 : (lmK (K, I, L, Rf, n, s) a).1 = ci := hk; show (F.2.2.2.2.1 k).bind _ = _; rw [hl]; show (s_getf _ _ _).bind _ = _; unfold s_getf; dsimp only; rw [hk1, Nat.beq_refl]; rfl) kk
theorem wp_getIF {ci fk : Nat} (hc : lc_at pc F.2.2.2.2.2 = some ((14, 0, k, z, ts), len)) (hl : F.2.2.2.2.1 k = some (10, ci, fk)) (hk : (K a).1 = ci) (hp : pc + len = pc') (kk : WP d F pc' ls (.int (I a fk) :: r) (K, I, L, Rf, n, s) Q) : WP d F pc ls (.ref a :: r) (K, I, L, Rf, n, s) Q := by
  subst hp
  exact WP.go (by unfold s_step; rw [hc]; have hk1 : (lmK (K, I, L, Rf, n, s) a).1 = ci := hk; show (F.2.2.2.2.1 k).bind _ = _; rw [hl]; show (s_getf _ _ _).bind _ = _; unfold s_getf; dsimp only; rw [hk1, Nat.beq_refl]; rfl) kk
theorem wp_getR {ci fk b : Nat} (hc : lc_at pc F.2.2.2.2.2 = some ((14, 0, k, z, ts), len)) (hl : F.2.2.2.2.1 k = some (2, ci, fk)) (hk : (K a).1 = ci) (hr : Rf a fk = some b) (hp : pc + len = pc') (kk : WP d F pc' ls (.ref b :: r) (K, I, L, Rf, n, s) Q) : WP d F pc ls (.ref a :: r) (K, I, L, Rf, n, s) Q := by
  subst hp
  exact WP.go (by unfold s_step; rw [hc]; have hk1 : (lmK (K, I, L, Rf, n, s) a).1 = ci := hk; show (F.2.2.2.2.1 k).bind _ = _; rw [hl]; show (s_getf _ _ _).bind _ = _; unfold s_getf; dsimp only; rw [hk1, show lmR (K, I, L, Rf, n, s) a fk = _ from hr, Nat.beq_refl]; rfl) kk
theorem wp_getRF {ci fk b : Nat} (hc : lc_at pc F.2.2.2.2.2 = some ((14, 0, k, z, ts), len)) (hl : F.2.2.2.2.1 k = some (12, ci, fk)) (hk : (K a).1 = ci) (hr : Rf a fk = some b) (hp : pc + len = pc') (kk : WP d F pc' ls (.ref b :: r) (K, I, L, Rf, n, s) Q) : WP d F pc ls (.ref a :: r) (K, I, L, Rf, n, s) Q := by
  subst hp
  exact WP.go (by unfold s_step; rw [hc]; have hk1 : (lmK (K, I, L, Rf, n, s) a).1 = ci := hk; show (F.2.2.2.2.1 k).bind _ = _; rw [hl]; show (s_getf _ _ _).bind _ = _; unfold s_getf; dsimp only; rw [hk1, show lmR (K, I, L, Rf, n, s) a fk = _ from hr, Nat.beq_refl]; rfl) kk
theorem wp_getRN {ci fk : Nat} (hc : lc_at pc F.2.2.2.2.2 = some ((14, 0, k, z, ts), len)) (hl : F.2.2.2.2.1 k = some (2, ci, fk)) (hk : (K a).1 = ci) (hr : Rf a fk = none) (hp : pc + len = pc') (kk : WP d F pc' ls (.null :: r) (K, I, L, Rf, n, s) Q) : WP d F pc ls (.ref a :: r) (K, I, L, Rf, n, s) Q := by
  subst hp
  exact WP.go (by unfold s_step; rw [hc]; have hk1 : (lmK (K, I, L, Rf, n, s) a).1 = ci := hk; show (F.2.2.2.2.1 k).bind _ = _; rw [hl]; show (s_getf _ _ _).bind _ = _; unfold s_getf; dsimp only; rw [hk1, show lmR (K, I, L, Rf, n, s) a fk = _ from hr, Nat.beq_refl]; rfl) kk
theorem wp_putI {ci fk : Nat} {x : Int32} (hc : lc_at pc F.2.2.2.2.2 = some ((15, 0, k, z, ts), len)) (hl : F.2.2.2.2.1 k = some (0, ci, fk)) (hk : (K a).1 = ci) (hn : a < n) (hp : pc + len = pc') (kk : WP d F pc' ls r (K, up2 I a fk x, L, Rf, n, s) Q) : WP d F pc ls (.int x :: .ref a :: r) (K, I, L, Rf, n, s) Q := by
  subst hp
  exact WP.go (by unfold s_step; rw [hc]; have hk1 : (lmK (K, I, L, Rf, n, s) a).1 = ci := hk; show (F.2.2.2.2.1 k).bind _ = _; rw [hl]; show (s_putf _ _ _ _ _ _).bind _ = _; unfold s_putf; dsimp only; rw [hk1, show Nat.blt a (lmN (K, I, L, Rf, n, s)) = true from Nat.blt_eq.mpr hn, Nat.beq_refl]; rfl) kk
theorem wp_putZ {ci fk : Nat} {x : Int32} (hc : lc_at pc F.2.2.2.2.2 = some ((15, 0, k, z, ts), len)) (hl : F.2.2.2.2.1 k = some (1, ci, fk)) (hk : (K a).1 = ci) (hn : a < n) (hb : x = 0 ∨ x = 1) (hp : pc + len = pc') (kk : WP d F pc' ls r (K, up2 I a fk x, L, Rf, n, s) Q) : WP d F pc ls (.int x :: .ref a :: r) (K, I, L, Rf, n, s) Q := by
  subst hp
  exact WP.go (by unfold s_step; rw [hc]; have hk1 : (lmK (K, I, L, Rf, n, s) a).1 = ci := hk; show (F.2.2.2.2.1 k).bind _ = _; rw [hl]; show (s_putf _ _ _ _ _ _).bind _ = _; unfold s_putf; dsimp only; rw [hk1, show Nat.blt a (lmN (K, I, L, Rf, n, s)) = true from Nat.blt_eq.mpr hn, Nat.beq_refl]; show ((if x = 0 ∨ x = 1 then _ else _) : Option Lm).bind _ = _; rw [if_pos hb]; rfl) kk
theorem wp_putR {ci fk b : Nat} (hc : lc_at pc F.2.2.2.2.2 = some ((15, 0, k, z, ts), len)) (hl : F.2.2.2.2.1 k = some (2, ci, fk)) (hk : (K a).1 = ci) (hn : a < n) (hp : pc + len = pc') (kk : WP d F pc' ls r (K, I, L, up2 Rf a fk (some b), n, s) Q) : WP d F pc ls (.ref b :: .ref a :: r) (K, I, L, Rf, n, s) Q := by
  subst hp
  exact WP.go (by unfold s_step; rw [hc]; have hk1 : (lmK (K, I, L, Rf, n, s) a).1 = ci := hk; show (F.2.2.2.2.1 k).bind _ = _; rw [hl]; show (s_putf _ _ _ _ _ _).bind _ = _; unfold s_putf; dsimp only; rw [hk1, show Nat.blt a (lmN (K, I, L, Rf, n, s)) = true from Nat.blt_eq.mpr hn, Nat.beq_refl]; rfl) kk
theorem wp_putN {ci fk : Nat} (hc : lc_at pc F.2.2.2.2.2 = some ((15, 0, k, z, ts), len)) (hl : F.2.2.2.2.1 k = some (2, ci, fk)) (hk : (K a).1 = ci) (hn : a < n) (hp : pc + len = pc') (kk : WP d F pc' ls r (K, I, L, up2 Rf a fk none, n, s) Q) : WP d F pc ls (.null :: .ref a :: r) (K, I, L, Rf, n, s) Q := by
  subst hp
  exact WP.go (by unfold s_step; rw [hc]; have hk1 : (lmK (K, I, L, Rf, n, s) a).1 = ci := hk; show (F.2.2.2.2.1 k).bind _ = _; rw [hl]; show (s_putf _ _ _ _ _ _).bind _ = _; unfold s_putf; dsimp only; rw [hk1, show Nat.blt a (lmN (K, I, L, Rf, n, s)) = true from Nat.blt_eq.mpr hn, Nat.beq_refl]; rfl) kk
theorem wp_putIF {ci fk : Nat} {x : Int32} (hc : lc_at pc F.2.2.2.2.2 = some ((15, 0, k, z, ts), len)) (hl : F.2.2.2.2.1 k = some (10, ci, fk)) (hk : (K a).1 = ci) (hn : a < n) (hi : F.2.1 = true) (ho : F.1 = ci) (hp : pc + len = pc') (kk : WP d F pc' ls r (K, up2 I a fk x, L, Rf, n, s) Q) : WP d F pc ls (.int x :: .ref a :: r) (K, I, L, Rf, n, s) Q := by
  subst hp
  exact WP.go (by unfold s_step; rw [hc]; have hk1 : (lmK (K, I, L, Rf, n, s) a).1 = ci := hk; show (F.2.2.2.2.1 k).bind _ = _; rw [hl]; show (s_putf _ _ _ _ _ _).bind _ = _; unfold s_putf; dsimp only; rw [hk1, show Nat.blt a (lmN (K, I, L, Rf, n, s)) = true from Nat.blt_eq.mpr hn, Nat.beq_refl, hi, ho, Nat.beq_refl]; rfl) kk
theorem wp_putRF {ci fk b : Nat} (hc : lc_at pc F.2.2.2.2.2 = some ((15, 0, k, z, ts), len)) (hl : F.2.2.2.2.1 k = some (12, ci, fk)) (hk : (K a).1 = ci) (hn : a < n) (hi : F.2.1 = true) (ho : F.1 = ci) (hp : pc + len = pc') (kk : WP d F pc' ls r (K, I, L, up2 Rf a fk (some b), n, s) Q) : WP d F pc ls (.ref b :: .ref a :: r) (K, I, L, Rf, n, s) Q := by
  subst hp
  exact WP.go (by unfold s_step; rw [hc]; have hk1 : (lmK (K, I, L, Rf, n, s) a).1 = ci := hk; show (F.2.2.2.2.1 k).bind _ = _; rw [hl]; show (s_putf _ _ _ _ _ _).bind _ = _; unfold s_putf; dsimp only; rw [hk1, show Nat.blt a (lmN (K, I, L, Rf, n, s)) = true from Nat.blt_eq.mpr hn, Nat.beq_refl, hi, ho, Nat.beq_refl]; rfl) kk
theorem lIn_nI {j w : Nat} (h : j < w) (hw : w < 2 ^ 31) : lIn (nI j) w = true := by
  unfold lIn
  rw [nI_clamp (by omega), decide_eq_true (nI_pos (n := j) (by omega)), decide_eq_true h]; rfl
theorem wp_iald {w : Nat} (j : Nat) {x : Int32} (hc : lc_at pc F.2.2.2.2.2 = some ((16, 0, k, z, ts), len)) (hk : K a = (50, w)) (hx : x = nI j) (hj : j < w) (hw : w < 2 ^ 31) (hp : pc + len = pc') (kk : WP d F pc' ls (.int (I a j) :: r) (K, I, L, Rf, n, s) Q) : WP d F pc ls (.int x :: .ref a :: r) (K, I, L, Rf, n, s) Q := by
  subst hp
  exact WP.go (by unfold s_step; rw [hc]; subst hx; have hk1 : lmK (K, I, L, Rf, n, s) a = (50, w) := hk; show (s_aload _ _ _ _).bind _ = _; unfold s_aload; rw [hk1, lIn_nI hj hw, nI_clamp (Nat.lt_trans hj hw)]; rfl) kk
theorem wp_lald {w : Nat} (j : Nat) {x : Int32} (hc : lc_at pc F.2.2.2.2.2 = some ((16, 1, k, z, ts), len)) (hk : K a = (51, w)) (hx : x = nI j) (hj : j < w) (hw : w < 2 ^ 31) (hp : pc + len = pc') (kk : WP d F pc' ls (.long (L a j) :: r) (K, I, L, Rf, n, s) Q) : WP d F pc ls (.int x :: .ref a :: r) (K, I, L, Rf, n, s) Q := by
  subst hp
  exact WP.go (by unfold s_step; rw [hc]; subst hx; have hk1 : lmK (K, I, L, Rf, n, s) a = (51, w) := hk; show (s_aload _ _ _ _).bind _ = _; unfold s_aload; rw [hk1, lIn_nI hj hw, nI_clamp (Nat.lt_trans hj hw)]; rfl) kk
theorem wp_bald {w : Nat} (j : Nat) {x : Int32} (hc : lc_at pc F.2.2.2.2.2 = some ((16, 3, k, z, ts), len)) (hk : K a = (52, w)) (hx : x = nI j) (hj : j < w) (hw : w < 2 ^ 31) (hp : pc + len = pc') (kk : WP d F pc' ls (.int (I a j) :: r) (K, I, L, Rf, n, s) Q) : WP d F pc ls (.int x :: .ref a :: r) (K, I, L, Rf, n, s) Q := by
  subst hp
  exact WP.go (by unfold s_step; rw [hc]; subst hx; have hk1 : lmK (K, I, L, Rf, n, s) a = (52, w) := hk; show (s_aload _ _ _ _).bind _ = _; unfold s_aload; rw [hk1, lIn_nI hj hw, nI_clamp (Nat.lt_trans hj hw)]; rfl) kk
theorem wp_zald {w : Nat} (j : Nat) {x : Int32} (hc : lc_at pc F.2.2.2.2.2 = some ((16, 3, k, z, ts), len)) (hk : K a = (53, w)) (hx : x = nI j) (hj : j < w) (hw : w < 2 ^ 31) (hp : pc + len = pc') (kk : WP d F pc' ls (.int (I a j) :: r) (K, I, L, Rf, n, s) Q) : WP d F pc ls (.int x :: .ref a :: r) (K, I, L, Rf, n, s) Q := by
  subst hp
  exact WP.go (by unfold s_step; rw [hc]; subst hx; have hk1 : lmK (K, I, L, Rf, n, s) a = (53, w) := hk; show (s_aload _ _ _ _).bind _ = _; unfold s_aload; rw [hk1, lIn_nI hj hw, nI_clamp (Nat.lt_trans hj hw)]; rfl) kk
theorem wp_aald {w b : Nat} (j : Nat) {x : Int32} (hc : lc_at pc F.2.2.2.2.2 = some ((16, 2, k, z, ts), len)) (hk : K a = (54, w)) (hx : x = nI j) (hj : j < w) (hw : w < 2 ^ 31) (hr : Rf a j = some b) (hp : pc + len = pc') (kk : WP d F pc' ls (.ref b :: r) (K, I, L, Rf, n, s) Q) : WP d F pc ls (.int x :: .ref a :: r) (K, I, L, Rf, n, s) Q := by
  subst hp
  exact WP.go (by unfold s_step; rw [hc]; subst hx; have hk1 : lmK (K, I, L, Rf, n, s) a = (54, w) := hk; show (s_aload _ _ _ _).bind _ = _; unfold s_aload; rw [hk1, lIn_nI hj hw, nI_clamp (Nat.lt_trans hj hw), show lmR (K, I, L, Rf, n, s) a j = _ from hr]; rfl) kk
theorem wp_rald {w b : Nat} (j : Nat) {x : Int32} (hc : lc_at pc F.2.2.2.2.2 = some ((16, 2, k, z, ts), len)) (hk : K a = (55, w)) (hx : x = nI j) (hj : j < w) (hw : w < 2 ^ 31) (hr : Rf a j = some b) (hp : pc + len = pc') (kk : WP d F pc' ls (.ref b :: r) (K, I, L, Rf, n, s) Q) : WP d F pc ls (.int x :: .ref a :: r) (K, I, L, Rf, n, s) Q := by
  subst hp
  exact WP.go (by unfold s_step; rw [hc]; subst hx; have hk1 : lmK (K, I, L, Rf, n, s) a = (55, w) := hk; show (s_aload _ _ _ _).bind _ = _; unfold s_aload; rw [hk1, lIn_nI hj hw, nI_clamp (Nat.lt_trans hj hw), show lmR (K, I, L, Rf, n, s) a j = _ from hr]; rfl) kk
theorem wp_iast {w : Nat} (j : Nat) {x v : Int32} (hc : lc_at pc F.2.2.2.2.2 = some ((17, 0, k, z, ts), len)) (hk : K a = (50, w)) (hn : a < n) (hx : x = nI j) (hj : j < w) (hw : w < 2 ^ 31) (hp : pc + len = pc') (kk : WP d F pc' ls r (K, up2 I a j v, L, Rf, n, s) Q) : WP d F pc ls (.int v :: .int x :: .ref a :: r) (K, I, L, Rf, n, s) Q := by
  subst hp
  exact WP.go (by unfold s_step; rw [hc]; subst hx; have hk1 : lmK (K, I, L, Rf, n, s) a = _ := hk; show (s_astore _ _ _ _ _).bind _ = _; unfold s_astore; rw [hk1]; dsimp only; rw [lIn_nI hj hw, nI_clamp (Nat.lt_trans hj hw), show Nat.blt a (lmN (K, I, L, Rf, n, s)) = true from Nat.blt_eq.mpr hn]; rfl) kk
theorem wp_last {w : Nat} (j : Nat) {x : Int32} {v : Int64} (hc : lc_at pc F.2.2.2.2.2 = some ((17, 1, k, z, ts), len)) (hk : K a = (51, w)) (hn : a < n) (hx : x = nI j) (hj : j < w) (hw : w < 2 ^ 31) (hp : pc + len = pc') (kk : WP d F pc' ls r (K, I, up2 L a j v, Rf, n, s) Q) : WP d F pc ls (.long v :: .int x :: .ref a :: r) (K, I, L, Rf, n, s) Q := by
  subst hp
  exact WP.go (by unfold s_step; rw [hc]; subst hx; have hk1 : lmK (K, I, L, Rf, n, s) a = _ := hk; show (s_astore _ _ _ _ _).bind _ = _; unfold s_astore; rw [hk1]; dsimp only; rw [lIn_nI hj hw, nI_clamp (Nat.lt_trans hj hw), show Nat.blt a (lmN (K, I, L, Rf, n, s)) = true from Nat.blt_eq.mpr hn]; rfl) kk
theorem wp_bast {w : Nat} (j : Nat) {x v : Int32} (hc : lc_at pc F.2.2.2.2.2 = some ((17, 3, k, z, ts), len)) (hk : K a = (52, w)) (hn : a < n) (hx : x = nI j) (hj : j < w) (hw : w < 2 ^ 31) (hp : pc + len = pc') (kk : WP d F pc' ls r (K, up2 I a j v.toInt8.toInt32, L, Rf, n, s) Q) : WP d F pc ls (.int v :: .int x :: .ref a :: r) (K, I, L, Rf, n, s) Q := by
  subst hp
  exact WP.go (by unfold s_step; rw [hc]; subst hx; have hk1 : lmK (K, I, L, Rf, n, s) a = _ := hk; show (s_astore _ _ _ _ _).bind _ = _; unfold s_astore; rw [hk1]; dsimp only; rw [lIn_nI hj hw, nI_clamp (Nat.lt_trans hj hw), show Nat.blt a (lmN (K, I, L, Rf, n, s)) = true from Nat.blt_eq.mpr hn]; rfl) kk
theorem wp_zast {w : Nat} (j : Nat) {x v : Int32} (hc : lc_at pc F.2.2.2.2.2 = some ((17, 3, k, z, ts), len)) (hk : K a = (53, w)) (hn : a < n) (hb : v = 0 ∨ v = 1) (hx : x = nI j) (hj : j < w) (hw : w < 2 ^ 31) (hp : pc + len = pc') (kk : WP d F pc' ls r (K, up2 I a j v, L, Rf, n, s) Q) : WP d F pc ls (.int v :: .int x :: .ref a :: r) (K, I, L, Rf, n, s) Q := by
  subst hp
  exact WP.go (by unfold s_step; rw [hc]; subst hx; have hk1 : lmK (K, I, L, Rf, n, s) a = _ := hk; show (s_astore _ _ _ _ _).bind _ = _; unfold s_astore; rw [hk1]; dsimp only; rw [lIn_nI hj hw, nI_clamp (Nat.lt_trans hj hw), show Nat.blt a (lmN (K, I, L, Rf, n, s)) = true from Nat.blt_eq.mpr hn]; show ((if v = 0 ∨ v = 1 then _ else _) : Option Lm).bind _ = _; rw [if_pos hb]; rfl) kk
theorem wp_aast {w b : Nat} (j : Nat) {x : Int32} (hc : lc_at pc F.2.2.2.2.2 = some ((17, 2, k, z, ts), len)) (hk : K a = (54, w)) (hn : a < n) (hkb : (K b).1 = 2) (hnb : b < n) (hx : x = nI j) (hj : j < w) (hw : w < 2 ^ 31) (hp : pc + len = pc') (kk : WP d F pc' ls r (K, I, L, up2 Rf a j (some b), n, s) Q) : WP d F pc ls (.ref b :: .int x :: .ref a :: r) (K, I, L, Rf, n, s) Q := by
  subst hp
  exact WP.go (by unfold s_step; rw [hc]; subst hx; have hk1 : lmK (K, I, L, Rf, n, s) a = _ := hk; show (s_astore _ _ _ _ _).bind _ = _; unfold s_astore; rw [hk1]; dsimp only; rw [lIn_nI hj hw, nI_clamp (Nat.lt_trans hj hw), show Nat.blt a (lmN (K, I, L, Rf, n, s)) = true from Nat.blt_eq.mpr hn]; show ((bif Nat.beq (K b).1 2 && Nat.blt b n then _ else _) : Option Lm).bind _ = _; rw [hkb, Nat.blt_eq.mpr hnb]; rfl) kk
theorem wp_alen {w ki : Nat} (hc : lc_at pc F.2.2.2.2.2 = some ((18, 0, k, z, ts), len)) (hk : K a = (ki, w)) (hki : Nat.ble 50 ki = true) (hk2 : Nat.blt ki 56 = true) (hp : pc + len = pc') (kk : WP d F pc' ls (.int (nI w) :: r) (K, I, L, Rf, n, s) Q) : WP d F pc ls (.ref a :: r) (K, I, L, Rf, n, s) Q := by
  subst hp
  exact WP.go (by unfold s_step; rw [hc]; show (bif Nat.ble 50 (K a).1 && Nat.blt (K a).1 56 then xGo (pc + len) ls (.int (Int32.ofNat (K a).2) :: r) (K, I, L, Rf, n, s) else _) = _; rw [hk]; dsimp only; rw [hki, hk2]; rfl) kk
theorem lmFits_of {c x : Nat} (hf : n + c ≤ lmCells) (hs : s + x ≤ lmSlots) : lmFits (K, I, L, Rf, n, s) c x = true := by unfold lmFits; rw [show Nat.ble (lmN (K, I, L, Rf, n, s) + c) lmCells = true from Nat.ble_eq_true_of_le hf, show Nat.ble (lmS (K, I, L, Rf, n, s) + x) lmSlots = true from Nat.ble_eq_true_of_le hs]; rfl
theorem wp_newa {w ki c : Nat} (hc : lc_at pc F.2.2.2.2.2 = some ((19, 0, c, z, ts), len)) (hki : s_newa c = some ki) (hw : w ≤ 65536) (hf : n + 1 ≤ lmCells) (hs : s + w ≤ lmSlots) (hp : pc + len = pc') (kk : WP d F pc' ls (.ref n :: r) (lmNew (K, I, L, Rf, n, s) ki w w) Q) : WP d F pc ls (.int (nI w) :: r) (K, I, L, Rf, n, s) Q := by
  subst hp
  exact WP.go (by unfold s_step; rw [hc]; show (bif decide (¬ nI w < 0) && Nat.ble (nI w).toNatClampNeg 65536 && lmFits (K, I, L, Rf, n, s) 1 (nI w).toNatClampNeg then _ else _) = _; rw [nI_clamp (by omega), decide_eq_true (nI_pos (by omega)), Nat.ble_eq_true_of_le hw, lmFits_of hf hs]; show (s_newa c).bind _ = _; rw [hki]; rfl) kk
theorem wp_new {ci w : Nat} (hc : lc_at pc F.2.2.2.2.2 = some ((20, 0, k, z, ts), len)) (hl : F.2.2.2.2.1 k = some (60, ci, w)) (hf : n + 1 ≤ lmCells) (hs : s + w ≤ lmSlots) (hp : pc + len = pc') (kk : WP d F pc' ls (.ref n :: st) (lmNew (K, I, L, Rf, n, s) ci 0 w) Q) : WP d F pc ls st (K, I, L, Rf, n, s) Q := by
  subst hp
  exact WP.go (by unfold s_step; rw [hc]; show (F.2.2.2.2.1 k).bind _ = _; rw [hl]; show (bif Nat.beq 60 60 && lmFits (K, I, L, Rf, n, s) 1 w then _ else _) = _; rw [lmFits_of hf hs]; rfl) kk
theorem wp_anewa {w u : Nat} (hc : lc_at pc F.2.2.2.2.2 = some ((21, 0, k, z, ts), len)) (hl : F.2.2.2.2.1 k = some (60, 2, u)) (hw : w ≤ 65536) (hf : n + 1 ≤ lmCells) (hs : s + w ≤ lmSlots) (hp : pc + len = pc') (kk : WP d F pc' ls (.ref n :: r) (lmNew (K, I, L, Rf, n, s) 54 w w) Q) : WP d F pc ls (.int (nI w) :: r) (K, I, L, Rf, n, s) Q := by
  subst hp
  exact WP.go (by unfold s_step; rw [hc]; show (F.2.2.2.2.1 k).bind _ = _; rw [hl]; show (bif Nat.beq 60 60 && Nat.beq 2 2 && decide (¬ nI w < 0) && Nat.ble (nI w).toNatClampNeg 65536 && lmFits (K, I, L, Rf, n, s) 1 (nI w).toNatClampNeg then _ else _) = _; rw [nI_clamp (by omega), decide_eq_true (nI_pos (by omega)), Nat.ble_eq_true_of_le hw, lmFits_of hf hs]; rfl) kk
theorem wp_multi {w y u v : Nat} (hc : lc_at pc F.2.2.2.2.2 = some ((22, 0, k, z, ts), len)) (hl : F.2.2.2.2.1 k = some (62, u, v)) (hw : w ≤ 65536) (hy : y ≤ 65536) (hf : n + (1 + w) ≤ lmCells) (hs : s + (w + w * y) ≤ lmSlots) (hp : pc + len = pc') (kk : WP d F pc' ls (.ref n :: r) (lmNew2 (K, I, L, Rf, n, s) w y) Q) : WP d F pc ls (.int (nI y) :: .int (nI w) :: r) (K, I, L, Rf, n, s) Q := by
  subst hp
  exact WP.go (by unfold s_step; rw [hc]; show (F.2.2.2.2.1 k).bind _ = _; rw [hl]; show (bif Nat.beq 62 62 && decide (¬ nI w < 0) && decide (¬ nI y < 0) && Nat.ble (nI w).toNatClampNeg 65536 && Nat.ble (nI y).toNatClampNeg 65536 && lmFits (K, I, L, Rf, n, s) (1 + (nI w).toNatClampNeg) ((nI w).toNatClampNeg + (nI w).toNatClampNeg * (nI y).toNatClampNeg) then xGo (pc + len) ls (.ref n :: r) (lmNew2 (K, I, L, Rf, n, s) (nI w).toNatClampNeg (nI y).toNatClampNeg) else _) = _; rw [nI_clamp (n := w) (by omega), nI_clamp (n := y) (by omega), decide_eq_true (nI_pos (n := w) (by omega)), decide_eq_true (nI_pos (n := y) (by omega)), Nat.ble_eq_true_of_le hw, Nat.ble_eq_true_of_le hy, lmFits_of hf hs]; rfl) kk
theorem wp_iret {v : Int32} {ty : FieldType} (hc : lc_at pc F.2.2.2.2.2 = some ((24, 0, k, z, ts), len)) (hr : F.2.2.1 = some ty) (hn : narrow ty (.int v) = .int v) (kk : Q (.inl (some (.int v))) t) : WP d F pc ls [.int v] t Q :=
  WP.ret (by unfold s_step; rw [hc]; show s_ret F.2.2.1 0 [.int v] = _; rw [hr]; show (if _ then _ else _) = _; rw [if_pos hn]) kk
theorem wp_lret {v : Int64} (hc : lc_at pc F.2.2.2.2.2 = some ((24, 1, k, z, ts), len)) (hr : F.2.2.1 = some .long) (kk : Q (.inl (some (.long v))) t) : WP d F pc ls [.long v] t Q :=
  WP.ret (by unfold s_step; rw [hc]; show s_ret F.2.2.1 1 [.long v] = _; rw [hr]; rfl) kk
theorem wp_aret {a : Nat} (hc : lc_at pc F.2.2.2.2.2 = some ((24, 2, k, z, ts), len)) (hr : F.2.2.1 = some (.array .int)) (kk : Q (.inl (some (.ref a))) t) : WP d F pc ls [.ref a] t Q :=
  WP.ret (by unfold s_step; rw [hc]; show s_ret F.2.2.1 2 [.ref a] = _; rw [hr]; rfl) kk
theorem wp_vret (hc : lc_at pc F.2.2.2.2.2 = some ((24, 3, k, z, ts), len)) (hr : F.2.2.1 = none) (kk : Q (.inl none) t) : WP d F pc ls [] t Q :=
  WP.ret (by unfold s_step; rw [hc]; show s_ret F.2.2.1 3 [] = _; rw [hr]; rfl) kk
/-- a call: the link, the arguments, what stays on the stack -/
theorem wp_callS {M b : Nat} {as : List Value} (hc : lc_at pc F.2.2.2.2.2 = some ((23, 2, k, z, ts), len)) (hl : F.2.2.2.2.1 k = some (50, M, b)) (hb : b / 10000 = 2) (ha : s_args (b / 100 % 100) st = some (as, r)) (hp : pc + 3 = pc') (kk : Ok d M as t (Cont d F pc pc' ls r Q)) : WP d F pc ls st t Q := by
  subst hp
  refine WP.call (M := M) (as := as) (r := r) ?_ kk
  unfold s_step; rw [hc]
  show (F.2.2.2.2.1 k).bind _ = _
  rw [hl]
  show (s_args (b / 100 % 100) st).bind _ = _
  rw [ha]
  show (bif Nat.beq 2 (b / 10000) && _ then _ else _) = _
  rw [hb]; rfl
theorem wp_callV {M b ci a : Nat} {as : List Value} (hc : lc_at pc F.2.2.2.2.2 = some ((23, 0, k, z, ts), len)) (hl : F.2.2.2.2.1 k = some (50, M, b)) (hb : b / 10000 = 0) (ha : s_args (b / 100 % 100) st = some (.ref a :: as, r)) (hci : b % 100 = ci) (hk : (lmK t a).1 = ci) (hp : pc + 3 = pc') (kk : Ok d M (.ref a :: as) t (Cont d F pc pc' ls r Q)) : WP d F pc ls st t Q := by
  subst hp
  refine WP.call (M := M) (as := .ref a :: as) (r := r) ?_ kk
  unfold s_step; rw [hc]
  show (F.2.2.2.2.1 k).bind _ = _
  rw [hl]
  show (s_args (b / 100 % 100) st).bind _ = _
  rw [ha]
  show (bif Nat.beq 0 (b / 10000) && (Nat.beq 0 2 || Nat.beq (lmK t a).1 (b % 100)) then _ else _) = _
  rw [hb, hci, hk, Nat.beq_refl ci]; rfl
theorem wp_callI {M b ci a : Nat} {as : List Value} (hc : lc_at pc F.2.2.2.2.2 = some ((23, 1, k, z, ts), len)) (hl : F.2.2.2.2.1 k = some (50, M, b)) (hb : b / 10000 = 1) (ha : s_args (b / 100 % 100) st = some (.ref a :: as, r)) (hci : b % 100 = ci) (hk : (lmK t a).1 = ci) (hp : pc + 3 = pc') (kk : Ok d M (.ref a :: as) t (Cont d F pc pc' ls r Q)) : WP d F pc ls st t Q := by
  subst hp
  refine WP.call (M := M) (as := .ref a :: as) (r := r) ?_ kk
  unfold s_step; rw [hc]
  show (F.2.2.2.2.1 k).bind _ = _
  rw [hl]
  show (s_args (b / 100 % 100) st).bind _ = _
  rw [ha]
  show (bif Nat.beq 1 (b / 10000) && (Nat.beq 1 2 || Nat.beq (lmK t a).1 (b % 100)) then _ else _) = _
  rw [hb, hci, hk, Nat.beq_refl ci]; rfl
theorem wp_max {x y : Int32} {u w : Nat} (hc : lc_at pc F.2.2.2.2.2 = some ((23, 2, k, z, ts), len)) (hl : F.2.2.2.2.1 k = some (56, u, w)) (hr : Nat.ble r.length 12 = true) (hp : pc + 3 = pc') (kk : WP d F pc' ls (.int (jmax x y) :: r) t Q) : WP d F pc ls (.int y :: .int x :: r) t Q := by
  subst hp; refine WP.go ?_ kk
  unfold s_step; rw [hc]; show (F.2.2.2.2.1 k).bind _ = _; rw [hl]; show (bif Nat.beq 2 2 && Nat.ble r.length 12 then _ else _) = _; rw [hr]; rfl
theorem wp_min {x y : Int32} {u w : Nat} (hc : lc_at pc F.2.2.2.2.2 = some ((23, 2, k, z, ts), len)) (hl : F.2.2.2.2.1 k = some (57, u, w)) (hr : Nat.ble r.length 12 = true) (hp : pc + 3 = pc') (kk : WP d F pc' ls (.int (jmin x y) :: r) t Q) : WP d F pc ls (.int y :: .int x :: r) t Q := by
  subst hp; refine WP.go ?_ kk
  unfold s_step; rw [hc]; show (F.2.2.2.2.1 k).bind _ = _; rw [hl]; show (bif Nat.beq 2 2 && Nat.ble r.length 12 then _ else _) = _; rw [hr]; rfl
theorem wp_maxL {x y : Int64} {u w : Nat} (hc : lc_at pc F.2.2.2.2.2 = some ((23, 2, k, z, ts), len)) (hl : F.2.2.2.2.1 k = some (58, u, w)) (hr : Nat.ble r.length 12 = true) (hp : pc + 3 = pc') (kk : WP d F pc' ls (.long (jmax8 x y) :: r) t Q) : WP d F pc ls (.long y :: .long x :: r) t Q := by
  subst hp; refine WP.go ?_ kk
  unfold s_step; rw [hc]; show (F.2.2.2.2.1 k).bind _ = _; rw [hl]; show (bif Nat.beq 2 2 && Nat.ble r.length 12 then _ else _) = _; rw [hr]; rfl
theorem wp_chk {x y : Int32} {u w : Nat} (hc : lc_at pc F.2.2.2.2.2 = some ((23, 2, k, z, ts), len)) (hl : F.2.2.2.2.1 k = some (55, u, w)) (hr : Nat.ble r.length 12 = true) (h0 : ¬ x < nI 0) (h1 : x < y) (hp : pc + 3 = pc') (kk : WP d F pc' ls r t Q) : WP d F pc ls (.int y :: .int x :: r) t Q := by
  subst hp; refine WP.go ?_ kk
  unfold s_step; rw [hc]; show (F.2.2.2.2.1 k).bind _ = _; rw [hl]; show (bif Nat.beq 2 2 && Nat.ble r.length 12 && decide (¬ x < 0) && decide (x < y) then _ else _) = _; rw [hr, decide_eq_true (show ¬ x < 0 from h0), decide_eq_true h1]; rfl
theorem wp_copy {a b : Nat} {i j m : Int32} {t' : Lm} {u w : Nat} (hc : lc_at pc F.2.2.2.2.2 = some ((23, 2, k, z, ts), len)) (hl : F.2.2.2.2.1 k = some (53, u, w)) (hr : Nat.ble r.length 12 = true) (ht : s_copy t a i b j m = some t') (hp : pc + 3 = pc') (kk : WP d F pc' ls r t' Q) : WP d F pc ls (.int m :: .int j :: .ref b :: .int i :: .ref a :: r) t Q := by
  subst hp; refine WP.go ?_ kk
  unfold s_step; rw [hc]; show (F.2.2.2.2.1 k).bind _ = _; rw [hl]; show (bif Nat.beq 2 2 && Nat.ble r.length 12 then (s_copy t a i b j m).bind _ else _) = _; rw [hr, ht]; rfl
theorem wp_obj {a : Nat} {u w : Nat} (hc : lc_at pc F.2.2.2.2.2 = some ((23, 1, k, z, ts), len)) (hl : F.2.2.2.2.1 k = some (51, u, w)) (hr : Nat.ble r.length 12 = true) (hp : pc + 3 = pc') (kk : WP d F pc' ls r t Q) : WP d F pc ls (.ref a :: r) t Q := by
  subst hp; refine WP.go ?_ kk
  unfold s_step; rw [hc]; show (F.2.2.2.2.1 k).bind _ = _; rw [hl]; show (bif Nat.beq 1 1 && Nat.ble r.length 12 then _ else _) = _; rw [hr]; rfl
/-- an exception that has just been made, its constructor, its throw -/
theorem wp_exc {a m ci w : Nat} (hc : lc_at pc F.2.2.2.2.2 = some ((23, 1, k, z, ts), len)) (hl : F.2.2.2.2.1 k = some (52, ci, w)) (hr : Nat.ble r.length 12 = true) (hk : K a = (ci, 0)) (hn : a < n) (hm : lmB ≤ m) (hp : pc + 3 = pc') (kk : WP d F pc' ls r (up1 K a (ci, 1), I, L, Rf, n, s) Q) : WP d F pc ls (.ref m :: .ref a :: r) (K, I, L, Rf, n, s) Q := by
  subst hp; refine WP.go ?_ kk
  unfold s_step; rw [hc]; show (F.2.2.2.2.1 k).bind _ = _; rw [hl]
  show (bif Nat.beq 1 1 && Nat.ble r.length 12 && Nat.beq (K a).1 ci && Nat.beq (K a).2 0 && Nat.blt a n && Nat.ble lmB m then _ else _) = _
  rw [hr, hk, Nat.blt_eq.mpr hn, Nat.ble_eq_true_of_le hm, show Nat.beq (ci, 0).1 ci = true from Nat.beq_refl ci]; rfl
theorem wp_throw {a : Nat} (hc : lc_at pc F.2.2.2.2.2 = some ((25, 0, k, z, ts), len)) (hn : a < n) (h14 : 14 ≤ (K a).1) (h19 : (K a).1 < 19) (hf : F.2.2.2.1 = []) (kk : Q (.inr a) (K, I, L, Rf, n, s)) : WP d F pc ls (.ref a :: r) (K, I, L, Rf, n, s) Q := by
  refine WP.throw (a := a) ?_ (by rw [hf]; rfl) kk
  unfold s_step; rw [hc]
  show (bif Nat.blt a n && Nat.ble 14 (K a).1 && Nat.blt (K a).1 19 then _ else _) = _
  rw [Nat.blt_eq.mpr hn, Nat.ble_eq_true_of_le h14, Nat.blt_eq.mpr h19]; rfl
theorem wp_clone {a w u v : Nat} (hc : lc_at pc F.2.2.2.2.2 = some ((23, 0, k, z, ts), len)) (hl : F.2.2.2.2.1 k = some (54, u, v)) (hr : Nat.ble r.length 12 = true) (hk : K a = (50, w)) (hn : a < n) (hf : n + 1 ≤ lmCells) (hs : s + w ≤ lmSlots) (hp : pc + 3 = pc') (kk : WP d F pc' ls (.ref n :: r) (s_clone (K, I, L, Rf, n, s) a) Q) : WP d F pc ls (.ref a :: r) (K, I, L, Rf, n, s) Q := by
  subst hp; refine WP.go ?_ kk
  unfold s_step; rw [hc]; show (F.2.2.2.2.1 k).bind _ = _; rw [hl]
  show (bif Nat.beq 0 0 && Nat.ble r.length 12 && Nat.beq (K a).1 50 && Nat.blt a n && lmFits (K, I, L, Rf, n, s) 1 (K a).2 then _ else _) = _
  rw [hr, hk, Nat.blt_eq.mpr hn, lmFits_of hf hs]; rfl
theorem wp_cast {a w u v : Nat} (hc : lc_at pc F.2.2.2.2.2 = some ((26, 0, k, z, ts), len)) (hl : F.2.2.2.2.1 k = some (63, u, v)) (hk : K a = (50, w)) (hn : a < n) (hp : pc + len = pc') (kk : WP d F pc' ls (.ref a :: r) (K, I, L, Rf, n, s) Q) : WP d F pc ls (.ref a :: r) (K, I, L, Rf, n, s) Q := by
  subst hp; refine WP.go ?_ kk
  unfold s_step; rw [hc]; show (F.2.2.2.2.1 k).bind _ = _; rw [hl]
  show (bif Nat.beq 63 63 && Nat.beq (K a).1 50 && Nat.blt a n then _ else _) = _
  rw [hk, Nat.blt_eq.mpr hn]; rfl
end WPR
