/-! THE ENDS: returns, throws, catches -/
def RQ (below : List Frame) (G : LG) (t0 : Lm) (s : State) (o : Lo) (t' : Lm) : State → Prop := fun T => T.status = .running ∧ Ended T below (oV G o) ∧ Rep G t' T.heap ∧ ∃ L, EndT s (oV G o) T L (lmN t' - lmN t0) (lmS t' - lmS t0) ∧ ∀ q ∈ L, (gH G).size ≤ q.base
section ED
variable {p : Program} {l : Launch} {e : Env} {R : Room} {s : State} {m : MethodId} {args : Array Value} {below : List Frame} {meth : Method} {c : Code} {H : Heap} {locs : List Loc} {cells slots : Nat} {Q : State → Prop}
variable {cc : ByteArray} {pc len nL : Nat} {re : Array Slot} {G : LG} {ls st : List Value} {t t0 : Lm} {i : Instr} {own : Nat}
theorem sm_ret (hx : p.tables.exec = Jvm.exec) (hb : c.code = cc) {rt : Option FieldType} (hr : meth.sig.returnType = rt) (hlocks : meth.locks = false) (hR : Rep G t H) (hloc : ∀ q ∈ locs, (gH G).size ≤ q.base) {j k : Nat} {z : Int} {ts : List Nat} {v : Option Value} (hi : toI pc len (24, j, k, z, ts) = some i) (hd : decode cc pc = .ok (i, len)) (hs : s_ret rt j st = some (.inr (.inr (.inl v)))) :
    W p l e R s m args below meth c H locs (lmN t - lmN t0) (lmS t - lmS t0) (RQ below G t0 s (.inl v) t) (F0 m pc re (st.map (lV G))) := by
  rw [toI_24] at hi
  unfold s_ret at hs
  split at hs
  · rename_i ty x
    split at hs
    · rename_i hn
      cases hs
      split at hi <;> first | (exfalso; omega) | (cases hi; done) | skip
      cases hi
      intro T hT X
      obtain ⟨fs, hret, hrun, hended, hW, hframe⟩ := X.leave (v := some (.int x)) (hlocks := hlocks) (fun h => by rw [hr] at h; cases h)
      have hmeth' : T.vm.method? m = some meth := X.method'
      refine ⟨T.setFrames fs, ?_, hrun, hended, by rw [show (T.setFrames fs).heap = T.heap from rfl, hT]; exact hR, locs, ⟨Or.inl ⟨_, rfl⟩, hW, hframe⟩, hloc⟩
      show Steps p.tables e below (T.setTop (F0 m pc re [.int x])) _
      jvm_step X.here [X.here.top, hx, hb, hd, hmeth', hr, hn]
      (try refine ⟨rfl, ?_⟩); (try refine ⟨rfl, ?_⟩)
      first | (intro acts; rw [hret _ acts rfl rfl rfl]) | rw [hret _ _ rfl rfl rfl]
      exact Steps.refl _
    · cases hs
  · rename_i x
    cases hs
    split at hi <;> first | (exfalso; omega) | (cases hi; done) | skip
    cases hi
    intro T hT X
    obtain ⟨fs, hret, hrun, hended, hW, hframe⟩ := X.leave (v := some (.long x)) (hlocks := hlocks) (fun h => by rw [hr] at h; cases h)
    have hmeth' : T.vm.method? m = some meth := X.method'
    refine ⟨T.setFrames fs, ?_, hrun, hended, by rw [show (T.setFrames fs).heap = T.heap from rfl, hT]; exact hR, locs, ⟨Or.inl ⟨_, rfl⟩, hW, hframe⟩, hloc⟩
    show Steps p.tables e below (T.setTop (F0 m pc re [.long x])) _
    jvm_step X.here [X.here.top, hx, hb, hd, hmeth', hr, narrow]
    (try refine ⟨rfl, ?_⟩); (try refine ⟨rfl, ?_⟩)
    first | (intro acts; rw [hret _ acts rfl rfl rfl]) | rw [hret _ _ rfl rfl rfl]
    exact Steps.refl _
  · rename_i ty a
    cases hs
    split at hi <;> first | (exfalso; omega) | (cases hi; done) | skip
    cases hi
    intro T hT X
    obtain ⟨fs, hret, hrun, hended, hW, hframe⟩ := X.leave (v := some (.ref (gD G a))) (hlocks := hlocks) (fun h => by rw [hr] at h; cases h)
    have hmeth' : T.vm.method? m = some meth := X.method'
    refine ⟨T.setFrames fs, ?_, hrun, hended, by rw [show (T.setFrames fs).heap = T.heap from rfl, hT]; exact hR, locs, ⟨Or.inl ⟨_, rfl⟩, hW, hframe⟩, hloc⟩
    show Steps p.tables e below (T.setTop (F0 m pc re [.ref (gD G a)])) _
    jvm_step X.here [X.here.top, hx, hb, hd, hmeth', hr]
    (try refine ⟨rfl, ?_⟩); (try refine ⟨rfl, ?_⟩)
    first | (intro acts; rw [hret _ acts rfl rfl rfl]) | rw [hret _ _ rfl rfl rfl]
    exact Steps.refl _
  · cases hs
    split at hi <;> first | (exfalso; omega) | (cases hi; done) | skip
    cases hi
    intro T hT X
    obtain ⟨fs, hret, hrun, hended, hW, hframe⟩ := X.leave (v := none) (hlocks := hlocks) (fun _ => rfl)
    have hmeth' : T.vm.method? m = some meth := X.method'
    refine ⟨T.setFrames fs, ?_, hrun, hended, by rw [show (T.setFrames fs).heap = T.heap from rfl, hT]; exact hR, locs, ⟨Or.inl ⟨_, rfl⟩, hW, hframe⟩, hloc⟩
    show Steps p.tables e below (T.setTop (F0 m pc re [])) _
    jvm_step X.here [X.here.top, hx, hb, hd, hmeth', hr]
    (try refine ⟨rfl, ?_⟩); (try refine ⟨rfl, ?_⟩)
    first | (intro acts; rw [hret _ acts rfl rfl rfl]) | rw [hret _ _ rfl rfl rfl]
    exact Steps.refl _
  · cases hs
/-! the search for a handler, its classes cold or warm -/
theorem go_cold {E : CtlPost} {d : Bool} {acts : List Action} {U : State} {f : JFrame} {a : Addr} {x : ExceptionTableEntry} {xs : List ExceptionTableEntry} {cT : ClassId} {cell : Cell} {vm' : Vm} {Q : Handler → Jvm.Pre} (hx : covers x f.pc = true) (h0 : x.catchType ≠ 0)
    (hg : (Jvm.resolveClass f.method.cls x.catchType).Gives e.toSetting U.vm (.ok cT) vm') (hsz : vm'.classes.size ≤ U.vm.classes.size) (hcell : U.heap[a]? = some cell) (hobj : ∀ k, cell.vm ≠ .statics k) (hk : ∃ k, vm'.classes[cell.cls]? = some k) (hc : ∃ k, vm'.classes[cT]? = some k) :
    wp (findHandler.go f a (x :: xs)) Q E e d acts U ↔ if vm'.assignable cell.cls cT = true then Q (.found x.handlerPc) d acts (U.setVm vm') else wp (findHandler.go f a xs) Q E e d acts (U.setVm vm') := by
  simp only [covers] at hx
  obtain ⟨ha, ht⟩ := hg.op (op := VmOp.resolveClass f.method.cls x.catchType) rfl
  have hcell' : (U.setVm vm').heap[a]? = some cell := hcell
  cases hfit : vm'.assignable cell.cls cT <;>
    simp [findHandler.go, hx, h0, ha, ht, hsz, hcell, hcell', hobj, hk, hc, hfit, VmOp.dirties, VmOp.acts]
end ED
section EE
variable {p : Program} {l : Launch} {e : Env} {R : Room} {s : State} {m : MethodId} {args : Array Value} {below : List Frame} {meth : Method} {c : Code} {H : Heap} {locs : List Loc} {cells slots : Nat} {Q : State → Prop}
variable {cc : ByteArray} {pc len nL : Nat} {re : Array Slot} {G : LG} {ls st : List Value} {t t0 : Lm} {i : Instr} {own : Nat}
/-- an entry of the machine's table of handlers and one of the light machine's -/
def hR1 (own : Nat) (s : State) (args : Array Value) (x : ExceptionTableEntry) (h : Nat × Nat × Nat × Nat) : Prop := x.startPc = h.1 ∧ x.endPc = h.2.1 ∧ x.handlerPc = h.2.2.1 ∧ x.catchType ≠ 0 ∧ 14 ≤ h.2.2.2 ∧ h.2.2.2 < 19 ∧ (Cond.classLink (cN own) x.catchType (cN h.2.2.2)).before args s = true
def hFd (o : Option Nat) : Handler := match o with
  | some h => .found h
  | none => .none
def hRs (own : Nat) (s : State) (args : Array Value) : List ExceptionTableEntry → List (Nat × Nat × Nat × Nat) → Prop
  | [], [] => True
  | x :: xs, h :: hs => hR1 own s args x h ∧ hRs own s args xs hs
  | _, _ => False
theorem find_go (hpl : e.platform.magicAccessors = ({} : Platform).magicAccessors) (hown : s.vm.findClass (cN own) = some m.cls) (hK : Kn G s) {U : State} {f : JFrame} {a : Addr} {cell : Cell} {ci : Nat} (hcell : U.heap[a]? = some cell) (hcls : cell.cls = gC G ci) (hobj : ∀ k, cell.vm ≠ .statics k) (h14 : 14 ≤ ci) (h19 : ci < 19) (hf : f.method = m) :
    ∀ {xs : List ExceptionTableEntry} {hl : List (Nat × Nat × Nat × Nat)}, hRs own s args xs hl → ∀ vm0, s.WarmedH vm0 → ∃ vm1, s.WarmedH vm1 ∧ ∀ (Q : Handler → Jvm.Pre) (E : CtlPost) (d : Bool) (acts : List Action), wp (findHandler.go f a xs) Q E e d acts (U.setVm vm0) ↔ Q (hFd (s_find f.pc ci hl)) d acts (U.setVm vm1)
  | [], [], _, vm0, hW => ⟨vm0, hW, fun Q E d acts => W.findHandler_go_nil⟩
  | [], _ :: _, q, _, _ => q.elim
  | _ :: _, [], q, _, _ => q.elim
  | x :: xs, h :: hs, ⟨⟨e1, e2, e3, e4, e5, e6, e7⟩, hr⟩, vm0, hW => by
    have ih := find_go hpl hown hK hcell hcls hobj h14 h19 hf hr
    rw [s_find]
    cases hcv : covers x f.pc with
    | false =>
      have hn : (Nat.ble h.1 f.pc && Nat.blt f.pc h.2.1) = false := by
        simp only [covers] at hcv
        rw [e1, e2] at hcv
        simp only [Bool.and_eq_false_iff, decide_eq_false_iff_not] at hcv ⊢
        rcases hcv with q | q
        · left; cases hb : Nat.ble h.1 f.pc with
          | false => rfl
          | true => exact absurd (Nat.le_of_ble_eq_true hb) q
        · right; cases hb : Nat.blt f.pc h.2.1 with
          | false => rfl
          | true => exact absurd (Nat.blt_eq.mp hb) q
      obtain ⟨vm1, hW1, h1⟩ := ih vm0 hW
      refine ⟨vm1, hW1, fun Q E d acts => ?_⟩
      rw [W.findHandler_go_skip hcv, h1, hn, Bool.false_and, cond_false]
    | true =>
      have hn : (Nat.ble h.1 f.pc && Nat.blt f.pc h.2.1) = true := by
        simp only [covers] at hcv
        rw [e1, e2] at hcv
        simp only [Bool.and_eq_true, decide_eq_true_eq] at hcv ⊢
        exact ⟨Nat.ble_eq.mpr hcv.1, Nat.blt_eq.mpr hcv.2⟩
      obtain ⟨c', hc', hcl⟩ := Cond.classLink_spec hown e7 e.platform hpl
      have hcc : c' = gC G h.2.2.2 := Option.some.inj (hc'.symm.trans (hK.2.1 _ e5 e6).1)
      subst hcc
      obtain ⟨dk, _, _, kt, hd, _, _, _, _, hkt, _, hopen⟩ := hcl.here
      have hcl₀ := hW.classLinks hcl
      have hW' : s.WarmedH (vm0.noted m.cls x.catchType (.cls (gC G h.2.2.2))) := hW.noted hd hopen (State.rightAt_cls hcl)
      obtain ⟨k1, hk1, -⟩ := (hK.2.1 ci h14 h19).2
      obtain ⟨ks', hks', -⟩ := hW'.alike.2.2 _ _ hk1
      obtain ⟨kt', hkt', -⟩ := hW'.alike.2.2 _ _ hkt
      have hsz : (vm0.noted m.cls x.catchType (.cls (gC G h.2.2.2))).classes.size ≤ (U.setVm vm0).vm.classes.size := Nat.le_of_eq (Vm.size_noted ..)
      have key : ∀ (Q : Handler → Jvm.Pre) (E : CtlPost) (d : Bool) (acts : List Action), _ := fun Q E d acts => go_cold (e := e) (E := E) (d := d) (acts := acts) (U := U.setVm vm0) (f := f) (a := a) (x := x) (xs := xs) (Q := Q) hcv e4 (by rw [hf]; exact resolveClass_links e.toSetting hcl₀) hsz hcell hobj ⟨ks', by rw [hcls]; exact hks'⟩ ⟨kt', hkt'⟩
      rw [hn, Bool.true_and]
      cases hq : Nat.beq h.2.2.2 ci with
      | true =>
        have hq' := Nat.eq_of_beq_eq_true hq
        refine ⟨_, hW', fun Q E d acts => ?_⟩
        rw [key, if_pos (by rw [hcls, hq']; exact va_asg _ _), e3]
        exact Iff.rfl
      | false =>
        have hne : ci ≠ h.2.2.2 := fun q => by rw [q, Nat.beq_refl] at hq; cases hq
        obtain ⟨vm1, hW1, h1⟩ := ih _ hW'
        refine ⟨vm1, hW1, fun Q E d acts => ?_⟩
        rw [key, if_neg (by rw [hcls, hW'.alike.assignable, hK.2.2.2.2.2.2.2.2.2.2.1 ci _ h14 h19 e5 e6 hne]; exact fun q => by cases q)]
        exact h1 Q E d acts
end EE
section EF
variable {p : Program} {l : Launch} {e : Env} {R : Room} {s : State} {m : MethodId} {args : Array Value} {below : List Frame} {meth : Method} {c : Code} {H : Heap} {locs : List Loc} {cells slots : Nat} {Q : State → Prop}
variable {cc : ByteArray} {pc len nL : Nat} {re : Array Slot} {G : LG} {ls st : List Value} {t t0 : Lm} {i : Instr} {own : Nat}
def FindsTo (e : Env) (s : State) (f : JFrame) (a : Addr) (h : Handler) (vm' : Vm) : Prop :=
  ∀ (Q : Handler → Jvm.Pre) (E : CtlPost) (d : Bool) (acts : List Action), wp (findHandler f a) Q E e d acts s ↔ Q h d acts (s.setVm vm')
theorem throw_leaveTo {s : State} {a : Addr} {f : JFrame} {r : List Frame} {vm' : Vm} {meth : Method} (hm : vm'.method? f.method = some meth) (hl : meth.locks = false) (hlocked : f.locked = none) (hentered : f.entered = []) (hfind : FindsTo e s f a .none vm') :
    (stepThrowing e s a (.java f :: r)).Is ((s.setVm vm').setFrames (.throwing a :: r)) [] := by
  simp only [stepThrowing, searchFrame, vmDo]
  generalize hr : Sem.go _ e false [] s = res
  obtain ⟨as, rfl, ha⟩ := Sem.eq_ok_of hr (a := Handler.none) (s' := s.setVm vm') (acts' := [])
    (by cases hp : e.platform.frameOwnsMonitors <;> simp [hfind _ _ _ _, hm, hl, hlocked, hentered, hp, leaveIfLocked])
  exact ⟨rfl, ha⟩
theorem throw_catchTo {s : State} {a : Addr} {f : JFrame} {r : List Frame} {pc : Nat} {vm' : Vm} (hfind : FindsTo e s f a (.found pc) vm') :
    (stepThrowing e s a (.java f :: r)).Is ((s.setVm vm').setFrames (.java { f with pc := pc, stack := [.ref a] } :: r)) [] := by
  simp only [stepThrowing, searchFrame, vmDo]
  generalize hr : Sem.go _ e false [] s = res
  obtain ⟨as, rfl, ha⟩ := Sem.eq_ok_of hr (a := Handler.found pc) (s' := s.setVm vm') (acts' := []) (by simp [hfind _ _ _ _])
  exact ⟨rfl, ha⟩
theorem Steps.caughtTo {tb : Tables} {s target : State} {g : JFrame} {a : Addr} {vm' : Vm} (h : At s g.method c below) {pc : Nat} (hfind : FindsTo e ((s.setTop g).pushFrame (.throwing a)) g a (.found pc) vm')
    (hrest : Steps tb e below ((s.setVm vm').setTop { g with pc := pc, stack := [.ref a] }) target) :
    Steps tb e below ((s.setTop g).pushFrame (.throwing a)) target := by
  obtain ⟨hgo, hw⟩ := h.throwing a
  refine Steps.head hgo hw ?_
  rw [stepThread_throwing (frames_entered h.top _), (throw_catchTo (s := (s.setTop g).pushFrame (.throwing a)) hfind).1]
  obtain ⟨g₀, hg⟩ := Option.isSome_iff_exists.mp h.top
  obtain ⟨r, hr⟩ := State.topJava?_eq_some.mp hg
  have hr' : (s.setVm vm').frames = .java g₀ :: r := hr
  rw [State.setTop_of_frames _ hr'] at hrest
  have e1 : (((s.setTop g).pushFrame (.throwing a)).setVm vm').setFrames (.java { g with pc := pc, stack := [.ref a] } :: s.frames.tail) = (s.setVm vm').setFrames (.java { g with pc := pc, stack := [.ref a] } :: r) := by
    rw [State.pushFrame, State.setTop_of_frames _ hr, State.setFrames_setFrames, hr]
    show ((s.setFrames _).setVm vm').setFrames _ = _
    rw [show ∀ fs, (s.setFrames fs).setVm vm' = (s.setVm vm').setFrames fs from fun _ => rfl, State.setFrames_setFrames]
    rfl
  rw [e1]
  exact hrest
theorem Steps.thrownTo {tb : Tables} {s target : State} {g : JFrame} {a : Addr} {vm' : Vm} {meth : Method} (h : At s g.method c below) (hm : vm'.method? g.method = some meth) (hl : meth.locks = false) (hlocked : g.locked = none) (hentered : g.entered = []) (hfind : FindsTo e ((s.setTop g).pushFrame (.throwing a)) g a .none vm')
    (hrest : Steps tb e below ((s.setVm vm').setFrames (.throwing a :: s.frames.tail)) target) :
    Steps tb e below ((s.setTop g).pushFrame (.throwing a)) target := by
  obtain ⟨hgo, hw⟩ := h.throwing a
  refine Steps.head hgo hw ?_
  rw [stepThread_throwing (frames_entered h.top _), (throw_leaveTo (s := (s.setTop g).pushFrame (.throwing a)) (meth := meth) hm hl hlocked hentered hfind).1]
  obtain ⟨g₀, hg⟩ := Option.isSome_iff_exists.mp h.top
  obtain ⟨r, hr⟩ := State.topJava?_eq_some.mp hg
  have e1 : (((s.setTop g).pushFrame (.throwing a)).setVm vm').setFrames (.throwing a :: s.frames.tail) = (s.setVm vm').setFrames (.throwing a :: s.frames.tail) := by
    rw [State.pushFrame, State.setTop_of_frames _ hr, State.setFrames_setFrames]
    rw [show ∀ fs, (s.setFrames fs).setVm vm' = (s.setVm vm').setFrames fs from fun _ => rfl, State.setFrames_setFrames]
  rw [e1]
  exact hrest
/-- an exception lies over the frame: it is caught here, or leaves -/
theorem thrown_at {T : State} (X : Stand p l e R s m args below meth c T locs cells slots) (hown : s.vm.findClass (cN own) = some m.cls) (hK : Kn G s) (hlocks : meth.locks = false) {hl : List (Nat × Nat × Nat × Nat)} (hh : hRs own s args c.exceptionTable.toList hl)
    {g : JFrame} (hg : g.method = m) (hlocked : g.locked = none) (hentered : g.entered = []) {a : Addr} {cell : Cell} {ci : Nat} (hcell : T.heap[a]? = some cell) (hcls : cell.cls = gC G ci) (hobj : ∀ k, cell.vm ≠ .statics k) (h14 : 14 ≤ ci) (h19 : ci < 19) :
    ∃ vm1, Stand p l e R s m args below meth c (T.setVm vm1) locs cells slots ∧
      (∀ h, s_find g.pc ci hl = some h → ∀ target, Steps p.tables e below ((T.setVm vm1).setTop { g with pc := h, stack := [.ref a] }) target → Steps p.tables e below ((T.setTop g).pushFrame (.throwing a)) target) ∧
      (s_find g.pc ci hl = none → Steps p.tables e below ((T.setTop g).pushFrame (.throwing a)) ((T.setVm vm1).setFrames (.throwing a :: below))) := by
  have hpl : e.platform.magicAccessors = ({} : Platform).magicAccessors := by rw [X.admits.platform]
  have hU : ((T.setTop g).pushFrame (.throwing a)).heap = T.heap := throwing_heap T g a
  have hV : ((T.setTop g).pushFrame (.throwing a)).vm = T.vm := throwing_vm T g a
  obtain ⟨vm1, hW1, h1⟩ := find_go (e := e) (args := args) (U := (T.setTop g).pushFrame (.throwing a)) (f := g) hpl hown hK (by rw [hU]; exact hcell) hcls hobj h14 h19 hg hh T.vm X.warmed
  have hself : ((T.setTop g).pushFrame (.throwing a)).setVm T.vm = (T.setTop g).pushFrame (.throwing a) := by rw [← hV, State.setVm_self]
  have hF : FindsTo e ((T.setTop g).pushFrame (.throwing a)) g a (hFd (s_find g.pc ci hl)) vm1 := by
    intro Q E d acts
    rw [W.findHandler_eq (meth := meth) (code := c) (by rw [hV, hg]; exact X.method') X.code]
    have := h1 Q E d acts
    rw [hself] at this
    exact this
  have hAt : At T g.method c below := by rw [hg]; exact X.here
  refine ⟨vm1, X.noted hW1, fun h hs target hrest => ?_, fun hs => ?_⟩
  · rw [hs] at hF
    exact Steps.caughtTo hAt hF hrest
  · rw [hs] at hF
    refine Steps.thrownTo hAt (meth := meth) (by rw [hg]; have := (X.noted hW1).method'; exact this) hlocks hlocked hentered hF ?_
    rw [X.tail]
    exact Steps.refl _
end EF
section EG
variable {p : Program} {l : Launch} {e : Env} {R : Room} {s : State} {m : MethodId} {args : Array Value} {below : List Frame} {meth : Method} {c : Code} {H : Heap} {locs : List Loc} {cells slots : Nat} {Q : State → Prop}
variable {cc : ByteArray} {pc len nL : Nat} {re : Array Slot} {G : LG} {ls st : List Value} {t t0 : Lm} {i : Instr} {own : Nat}
theorem Rep.exc (h : Rep G t H) {a ci : Nat} (ha : a < lmN t) (hk : (lmK t a).1 = ci) (h14 : 14 ≤ ci) (h19 : ci < 19) : ∃ cell : Cell, H[gD G a]? = some cell ∧ cell.cls = gC G ci ∧ ∀ k, cell.vm ≠ .statics k := by
  have := h.2.2.2.1 a ha
  unfold lCell at this
  rw [hk, if_neg (by omega), if_pos (by omega)] at this
  have h2 := this.2
  split at h2
  · exact ⟨_, h2, rfl, fun k q => by cases q⟩
  · obtain ⟨cell, q1, q2, q3⟩ := h2
    exact ⟨cell, q1, q2, fun k q => by rw [q3] at q; cases q⟩
theorem RQ_threw (hR : Rep G t H) (hloc : ∀ q ∈ locs, (gH G).size ≤ q.base) {T : State} (hT : T.heap = H) {a : Nat} (X : Stand p l e R s m args below meth c T locs (lmN t - lmN t0) (lmS t - lmS t0)) :
    RQ below G t0 s (.inr a) t (T.setFrames (.throwing (gD G a) :: below)) := by
  obtain ⟨g₀, hfr⟩ := X.frames_eq
  exact ⟨X.here.running, State.frames_setFrames _ (State.cur_lt_of_frames hfr), by rw [show (T.setFrames (.throwing (gD G a) :: below)).heap = T.heap from rfl, hT]; exact hR, locs, ⟨Or.inr ⟨_, rfl⟩, (X.ends _).1, (X.ends _).2⟩, hloc⟩
theorem sm_athrow (hx : p.tables.exec = Jvm.exec) (hb : c.code = cc) (hown : s.vm.findClass (cN own) = some m.cls) (hK : Kn G s) (hlocks : meth.locks = false) {hl : List (Nat × Nat × Nat × Nat)} (hh : hRs own s args c.exceptionTable.toList hl) (hR : Rep G t H) (hloc : ∀ q ∈ locs, (gH G).size ≤ q.base) {j k a : Nat} {z : Int} {ts : List Nat} (hi : toI pc len (25, j, k, z, ts) = some i) (hd : decode cc pc = .ok (i, len)) (ha : a < lmN t) (h14 : 14 ≤ (lmK t a).1) (h19 : (lmK t a).1 < 19)
    {Q : State → Prop} (kc : ∀ h, s_find pc (lmK t a).1 hl = some h → W p l e R s m args below meth c H locs cells slots Q (F0 m h re [.ref (gD G a)]))
    (kn : s_find pc (lmK t a).1 hl = none → ∀ T : State, T.heap = H → Stand p l e R s m args below meth c T locs cells slots → Q (T.setFrames (.throwing (gD G a) :: below))) : W p l e R s m args below meth c H locs cells slots Q (F0 m pc re (.ref (gD G a) :: st)) := by
  rw [toI_25] at hi
  split at hi
  · cases hi
    intro T hT X
    obtain ⟨cell, q1, q2, q3⟩ := hR.exc ha rfl h14 h19
    obtain ⟨vm1, X1, h1, h2⟩ := thrown_at (T := T) (g := F0 m pc re st) X hown hK hlocks hh rfl rfl rfl (by rw [hT]; exact q1) q2 q3 h14 h19
    have hstep : ∀ tg, Steps p.tables e below ((T.setTop (F0 m pc re st)).pushFrame (.throwing (gD G a))) tg → Steps p.tables e below (T.setTop (F0 m pc re (.ref (gD G a) :: st))) tg := by
      intro tg hst
      jvm_step X.here [hx, hb, hd, athrow.wp_sem]
      exact hst
    cases hs : s_find pc (lmK t a).1 hl with
    | some h =>
      obtain ⟨tg, a1, a2⟩ := kc h hs (T.setVm vm1) hT X1
      exact ⟨tg, hstep _ (h1 h hs _ a1), a2⟩
    | none => exact ⟨_, hstep _ (h2 hs), kn hs _ hT X1⟩
  · cases hi
end EG
