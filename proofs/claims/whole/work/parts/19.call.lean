/-! CALLS: a callee that returns or throws -/
/-- where a method ends: it returned or threw; the tables are warmer; the frame -/
def EndT (first : State) (o : Outcome) (t : State) (L : List Loc) (k n : Nat) : Prop := ((∃ v, o = .returned v) ∨ ∃ x, o = .threw x) ∧ first.WarmedH t.vm ∧ first.sameButNew ({ t with vm := first.vm } : State) L k n
/-- a callee's end, seen from the caller's point -/
def CallT (l : Launch) (R : Room) (p : Program) (e : Env) (below : List Frame) (s : State) (sargs : Array Value) (m : MethodId) (meth : Method) (c : Code) (U : State) (locs : List Loc) (cells slots : Nat) (g : JFrame) (mk : MethodId) (a : Array Value) (len : Nat) (Q : Array Value → State → Outcome → State → Prop) (E : List Loc → Nat → Nat → Prop) : Prop :=
  ∃ (o : Outcome) (t : State) (L : List Loc) (k n : Nat), E L k n ∧ Q a (U.calling g mk a) o t ∧ EndT (U.calling g mk a) o t L k n ∧
    Stand p l e R s m sargs below meth c (({ U with heap := t.heap, slotsUsed := t.slotsUsed } : State).setVm t.vm) (locs ++ L) (cells + k) (slots + n) ∧
    ((∃ v, o = .returned v ∧ Steps p.tables e below (doInvoke e (U.setTop g) [] mk a).1 ((({ U with heap := t.heap, slotsUsed := t.slotsUsed } : State).setVm t.vm).setTop { g with pc := g.pc + len, stack := v.toList ++ g.stack })) ∨
     (∃ x, o = .threw x ∧ Steps p.tables e below (doInvoke e (U.setTop g) [] mk a).1 (((({ U with heap := t.heap, slotsUsed := t.slotsUsed } : State).setVm t.vm).setTop g).pushFrame (.throwing x))))
theorem callT {l : Launch} {R : Room} {p : Program} {e : Env} {below : List Frame} {s : State} {sargs : Array Value} {m : MethodId} {meth : Method} {c : Code} {U : State} {locs : List Loc} {cells slots : Nat} {g : JFrame} {mk : MethodId} {a : Array Value} {len W : Nat} {y : MethodName} {S : Spec} {P : Array Value → State → Prop} {Q : Array Value → State → Outcome → State → Prop} {ig : Instr} {E : List Loc → Nat → Nat → Prop}
    (hM : MetFree l y S P (fun _ _ _ _ _ => True) Q) (hQ : ∀ a first o t, Q a first o t → ∃ L k n, E L k n ∧ EndT first o t L k n)
    (X : Stand p l e R s m sargs below meth c U locs cells slots) (hg : g.method = m) (hsize : g.locals.size = c.maxLocals) (hdg : decode c.code g.pc = .ok (ig, len)) (hW : 2 * g.monitorRoom + (g.stack.map fun v => v.category).sum ≤ W) (hn : U.methodNamed? y = some mk)
    {methY : Method} {cY : Code} (hmY : U.vm.method? mk = some methY) (hcY : methY.code = some cY) (hframes : S.room.frames + 1 ≤ R.frames) (hlocals : W + (cY.maxLocals + 11) + S.room.locals ≤ R.locals)
    (hpre : S.pre.before a U = true) (hinit : (Cond.initialized y.cls).before a U = true) (hcells : cells + S.room.cells ≤ R.cells) (hslots : slots + S.room.slots ≤ R.slots) (hP : P a (U.calling g mk a)) :
    CallT l R p e below s sargs m meth c U locs cells slots g mk a len Q E := by
  obtain ⟨kY, hkY, -⟩ := className_of_methodNamed hn
  have hinitY : kY.init = .initialized := Cond.initialized_spec (findClass_of_methodNamed hn) hkY hinit
  have h : At U g.method c below := by rw [hg]; exact X.here
  have happ : S.appliesLoose y e.platform (U.calling g mk a) = true :=
    Spec.appliesLoose_calling (g := g) h hdg hn hkY hinitY
      (X.room_calling (g := g) (R' := S.room) hsize hmY hcY hframes (by omega) hcells hslots) hpre
  obtain ⟨mid, hmid⟩ := h.above
  have hfr : (U.setTop g).frames = (.java g :: mid) ++ below := by rw [State.frames_setTop' g h.top, hmid]; rfl
  obtain ⟨o, s₂, hsteps, -, hend, hq⟩ := Steps.callFree hM p X.admits X.cas X.clock (acts := []) hfr happ hP trivial
  have hq' : Q a (U.calling g mk a) o s₂ := hq
  rw [State.frames_setTop' g h.top] at hend
  obtain ⟨L, k, n, hEE, hfe⟩ := hQ _ _ _ _ hq'
  obtain ⟨hor, hW₂, e2, q2, q3, q4, q5, q6⟩ := id hfe
  have e3 : s₂ = ({ (U.calling g mk a).setFrames s₂.frames with heap := s₂.heap, slotsUsed := s₂.slotsUsed } : State).setVm s₂.vm := by
    have : s₂ = ({ s₂ with vm := (U.calling g mk a).vm } : State).setVm s₂.vm := rfl
    rw [e2] at this
    exact this
  have hW' : U.WarmedH s₂.vm := hW₂
  obtain ⟨g₀, hg0⟩ := Option.isSome_iff_exists.mp h.top
  obtain ⟨r, hr⟩ := State.topJava?_eq_some.mp hg0
  have hsame : U.sameButNew ({ U with heap := s₂.heap, slotsUsed := s₂.slotsUsed } : State) L k n := by
    refine ⟨?_, q2, q3, q4, q5, q6⟩
    obtain ⟨t, ht, -⟩ := State.frames_cons hr
    show ({ U with heap := s₂.heap, slotsUsed := s₂.slotsUsed } : State) = { U.setFrames U.frames with heap := s₂.heap, slotsUsed := s₂.slotsUsed }
    rw [State.setFrames_self ht]
  have hr' : (({ U with heap := s₂.heap, slotsUsed := s₂.slotsUsed } : State).setVm s₂.vm).frames = .java g₀ :: r := hr
  subst hg
  refine ⟨o, s₂, L, k, n, hEE, hq', hfe, ⟨X.admits, X.cas, X.clock, X.frames, X.room, X.hears, X.method, X.code, (X.here.setHeapUsed s₂.heap s₂.slotsUsed).setVm hW'.alike, X.tail, State.WarmedH.trans X.warmed hW', X.limits, X.bytes, X.same.trans (hsame.setVm s.vm)⟩, ?_⟩
  cases o with
  | returned v =>
    left
    refine ⟨v, rfl, ?_⟩
    obtain ⟨c₂, i₂, len₂, hc₂, hd₂, hf₂⟩ := hend
    have hcc : c₂ = c := by
      have h1 : s₂.code? g.method = U.code? g.method := by
        rw [State.code?_eq, State.code?_eq, hW'.alike.method?]
      exact Option.some.inj (hc₂.symm.trans (h1.trans h.code))
    subst hcc
    have hlen : len₂ = len := by rw [hdg] at hd₂; cases hd₂; rfl
    subst hlen
    have hs₂ : s₂ = (({ U with heap := s₂.heap, slotsUsed := s₂.slotsUsed } : State).setVm s₂.vm).setTop { g with pc := g.pc + len₂, stack := v.toList ++ g.stack } := by
      refine e3.trans ?_
      rw [hf₂, State.calling_eq h.top, State.setFrames_setFrames, State.setTop_of_frames _ hr', hr]
      rfl
    rw [← hs₂]
    exact hsteps
  | threw x =>
    right
    refine ⟨x, rfl, ?_⟩
    have hf₂ : s₂.frames = .throwing x :: .java g :: U.frames.tail := hend
    have hs₂ : s₂ = ((({ U with heap := s₂.heap, slotsUsed := s₂.slotsUsed } : State).setVm s₂.vm).setTop g).pushFrame (.throwing x) := by
      refine e3.trans ?_
      rw [hf₂, State.calling_eq h.top, State.setFrames_setFrames, State.pushFrame, State.frames_setTop _ hr', State.setTop_of_frames _ hr', State.setFrames_setFrames, hr]
      rfl
    rw [← hs₂]
    exact hsteps
/-- the words that a method carries: its own code, the tables -/
def mWd (r : Mr) : List Cond := codeW r :: lw_tb2
/-- an outcome -/
def oV (G : LG) (o : Lo) : Outcome := match o with
  | .inl none => .returned none
  | .inl (some v) => .returned (some (lV G v))
  | .inr a => .threw (gD G a)
/-- room at a depth, from a state of the light machine -/
def lRoom (d : Nat) (t : Lm) : Room := { frames := d + 8, cells := lmCells - lmN t, slots := lmSlots - lmS t, locals := 100 * d + 300 }
def lP (G : LG) (as : List Value) (t : Lm) (a : Array Value) (s : State) : Prop := a = (as.map (lV G)).toArray ∧ Rep G t s.heap ∧ Kn G s
def lQ (G : LG) (t : Lm) (o : Lo) (t' : Lm) (_ : Array Value) (s : State) (oc : Outcome) (T : State) : Prop := oc = oV G o ∧ Rep G t' T.heap ∧ (∀ x, o = .inr x → x < lmN t' ∧ 14 ≤ (lmK t' x).1 ∧ (lmK t' x).1 < 19) ∧ lmN t ≤ lmN t' ∧ lmS t ≤ lmS t' ∧ ∃ L, EndT s oc T L (lmN t' - lmN t) (lmS t' - lmS t) ∧ ∀ q ∈ L, (gH G).size ≤ q.base
/-- THE CONTRACT that the light machine's run gives -/
def Ctr (l : Launch) (G : LG) (d : Nat) (r : Mr) (as : List Value) (t : Lm) (o : Lo) (t' : Lm) : Prop := MetFree l (mY r) (headSpec (mWd r) (lRoom d t)) (lP G as t) (fun _ _ _ _ _ => True) (lQ G t o t')
