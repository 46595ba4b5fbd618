/-! the words of a method's row; how a call is linked -/
theorem words_of {l : List (Nat × Nat × Nat × Nat)} {rs : List Mr} (h : (l.map fun q => [lw_tbl[q.1]?, lw_tbl[q.2.1]?, lw_tbl[q.2.2.1]?, lw_tbl[q.2.2.2]?]) = (rs.map fun r => (mWs r).map some)) {i : Nat} {r : Mr} (hr : rs[i]? = some r) : ∀ w ∈ mWs r, w ∈ lw_tbl := by
  intro w hw
  have h2 := congrArg (fun l => l[i]?) h
  simp only [List.getElem?_map, hr, Option.map_some] at h2
  cases hq : l[i]? with
  | none => rw [hq] at h2; cases h2
  | some q =>
    rw [hq] at h2
    have h3 := Option.some.inj h2
    have hm : some w ∈ (mWs r).map some := List.mem_map.mpr ⟨w, hw, rfl⟩
    rw [← h3] at hm
    simp only [List.mem_cons, List.not_mem_nil, or_false] at hm
    rcases hm with h | h | h | h <;> exact List.mem_of_getElem? h.symm
theorem mRow_words {M : Nat} {r : Mr} (hM : M < 369) (h : mRow M = some r) : (∀ w ∈ mWs r, w ∈ lw_tbl) ∧ okF r = true := by
  have key : ∀ {rs : List Mr} {i : Nat}, rs.all okF = true → rs[i]? = some r → okF r = true := fun hl hi => List.all_eq_true.mp hl r (List.mem_of_getElem? hi)
  unfold mRow at h
  split at h
  · exact ⟨words_of yw_0 h, key yf_0 h⟩
  · exact ⟨words_of yw_1 h, key yf_1 h⟩
  · exact ⟨words_of yw_2 h, key yf_2 h⟩
  · exact ⟨words_of yw_3 h, key yf_3 h⟩
  · exact ⟨words_of yw_4 h, key yf_4 h⟩
  · exact ⟨words_of yw_5 h, key yf_5 h⟩
  · exact ⟨words_of yw_6 h, key yf_6 h⟩
  · exact ⟨words_of yw_7 h, key yf_7 h⟩
  · exact ⟨words_of yw_8 h, key yf_8 h⟩
  · rename_i hk
    have h9 : (mR_9.take 9)[M % 40]? = some r := by rw [List.getElem?_take, if_pos (by omega)]; exact h
    exact ⟨words_of yw_9 h9, key yf_9 h9⟩
  · cases h
def okS50 (c : Nat) : Bool := (lkl c).all fun ch => ch.2.all fun q => !(Nat.beq q.2.1.1 50) || (Nat.blt q.2.1.2.1 369 && (!(nestL.elem (c, q.1)) || Nat.beq (q.2.1.2.2 / 10000) 1))
theorem okS50_all : (List.range 27).all okS50 = true := by decide +kernel
theorem lk_50 {c i M b : Nat} (h : lk c i = some (50, M, b)) : M < 369 ∧ (nestL.elem (c, i) = true → b / 10000 = 1) := by
  have := List.all_eq_true.mp okS50_all c (List.mem_range.mpr (lk_lt h))
  obtain ⟨n, hn⟩ := lk_at_all this h
  simp only [show Nat.beq 50 50 = true from rfl, Bool.not_true, Bool.false_or, Bool.and_eq_true] at hn
  refine ⟨Nat.blt_eq.mp hn.1, fun q => ?_⟩
  have h2 := hn.2
  rw [q, Bool.not_true, Bool.false_or] at h2
  exact Nat.eq_of_beq_eq_true h2
theorem codeW_spec {r : Mr} {args : Array Value} {s : State} (h : (codeW r).before args s = true) : ∃ mk meth c, s.methodNamed? (mY r) = some mk ∧ s.vm.method? mk = some meth ∧ meth.code = some c ∧ c.code = r.2.1 ∧ c.maxLocals = r.2.2.1 ∧ c.exceptionTable.toList.map (fun h => (h.startPc, h.endPc, h.handlerPc, h.catchType)) = r.2.2.2.2.2.1 ∧ meth.sig.returnType = r.2.2.2.1 ∧ meth.locks = false ∧ parseMethodDescriptor (mY r).desc = some meth.sig := by
  unfold codeW at h
  cases hb : r.2.2.2.2.2.1.isEmpty with
  | true =>
    rw [hb, cond_true] at h
    obtain ⟨mk, hn⟩ := Cond.code_named h
    obtain ⟨meth, c, h1, h2, h3, h4, h5, h6, h7, h8⟩ := Cond.code_spec hn h
    refine ⟨mk, meth, c, hn, h1, h2, h3, h4, ?_, h5, h6, h8⟩
    have e1 : r.2.2.2.2.2.1 = [] := List.isEmpty_iff.mp hb
    have e2 : c.exceptionTable = #[] := by simpa using h7
    rw [e1, e2]; rfl
  | false =>
    rw [hb, cond_false] at h
    obtain ⟨mk, meth, c, h1, h2, h3, h4, h5, h6, h7, h8, h9⟩ := Cond.codeWith_spec h
    exact ⟨mk, meth, c, h1, h2, h3, h4, h5, h6, h7, h8, h9⟩
/-- constructors: no handlers, no answer -/
def okIn (r : Mr) : Bool := !r.1.2.2.2.2 || (r.2.2.2.2.2.1.isEmpty && r.2.2.2.1.isNone)
theorem yi_0 : mR_0.all okIn = true := by with_unfolding_all rfl
theorem yi_1 : mR_1.all okIn = true := by with_unfolding_all rfl
theorem yi_2 : mR_2.all okIn = true := by with_unfolding_all rfl
theorem yi_3 : mR_3.all okIn = true := by with_unfolding_all rfl
theorem yi_4 : mR_4.all okIn = true := by with_unfolding_all rfl
theorem yi_5 : mR_5.all okIn = true := by with_unfolding_all rfl
theorem yi_6 : mR_6.all okIn = true := by with_unfolding_all rfl
theorem yi_7 : mR_7.all okIn = true := by with_unfolding_all rfl
theorem yi_8 : mR_8.all okIn = true := by with_unfolding_all rfl
theorem yi_9 : mR_9.all okIn = true := by with_unfolding_all rfl
theorem mRow_okIn {M : Nat} {r : Mr} (h : mRow M = some r) : okIn r = true := by
  have key : ∀ {rs : List Mr} {i : Nat}, rs.all okIn = true → rs[i]? = some r → okIn r = true := fun hl hi => List.all_eq_true.mp hl r (List.mem_of_getElem? hi)
  unfold mRow at h
  split at h
  · exact key yi_0 h
  · exact key yi_1 h
  · exact key yi_2 h
  · exact key yi_3 h
  · exact key yi_4 h
  · exact key yi_5 h
  · exact key yi_6 h
  · exact key yi_7 h
  · exact key yi_8 h
  · exact key yi_9 h
  · cases h
theorem stay_code (r : Mr) : stayW (codeW r) = true := by unfold codeW; cases r.2.2.2.2.2.1.isEmpty <;> rfl
theorem stay_ini (r : Mr) : stayW (iniW r) = true := rfl
theorem stay_kind (r : Mr) : stayW (kindW r) = true := by unfold kindW; cases r.1.2.2.2.1 <;> rfl
theorem stay_sel (r : Mr) : stayW (selW r) = true := by unfold selW; cases (r.1.2.2.2.1 || r.1.2.2.2.2) <;> rfl
section IV
variable {p : Program} {l : Launch} {e : Env} {R : Room} {s : State} {m : MethodId} {args : Array Value} {below : List Frame} {meth : Method} {c : Code} {T : State} {locs : List Loc} {cells slots : Nat} {own : Nat}
/-- a call is linked: what the callee begins with -/
def Linked (p : Program) (l : Launch) (e : Env) (R : Room) (s : State) (m : MethodId) (args : Array Value) (below : List Frame) (meth : Method) (c : Code) (T : State) (locs : List Loc) (cells slots : Nat) (g : JFrame) (r : Mr) (rest as : List Value) : Prop :=
  ∃ (mk : MethodId) (vm₁ : Vm) (methY : Method) (cY : Code), s.WarmedH vm₁ ∧ Stand p l e R s m args below meth c (T.setVm vm₁) locs cells slots ∧ (T.setVm vm₁).methodNamed? (mY r) = some mk ∧ (T.setVm vm₁).vm.method? mk = some methY ∧ methY.code = some cY ∧ cY.maxLocals = r.2.2.1 ∧
    ∀ target, Steps p.tables e below (doInvoke e ((T.setVm vm₁).setTop { g with stack := rest }) [] mk as.toArray).1 target → Steps p.tables e below (T.setTop g) target
theorem inv_link (X : Stand p l e R s m args below meth c T locs cells slots) (hx : p.tables.exec = Jvm.exec) (hown : s.vm.findClass (cN own) = some m.cls) (hts : ∀ w ∈ lw_tb2, w.before args s = true) {k M b : Nat} {r : Mr} (hq : lk own k = some (50, M, b)) (hr : mRow M = some r) {as rest : List Value} (hn : as.length = r.2.2.2.2.2.2.1)
    {g : JFrame} (hg : g.method = m) (hstack : g.stack = as.reverse ++ rest)
    (hk : (b / 10000 = 2 ∧ decode c.code g.pc = .ok (.invokestatic k, 3)) ∨ (b / 10000 = 1 ∧ decode c.code g.pc = .ok (.invokespecial k, 3) ∧ ∃ a tl, as = .ref a :: tl) ∨ (b / 10000 = 0 ∧ decode c.code g.pc = .ok (.invokevirtual k, 3) ∧ ∃ a tl cell, as = .ref a :: tl ∧ T.heap[a]? = some cell ∧ cell.vm.isStatics = false ∧ s.vm.findClass (cN r.1.2.2.1) = some cell.cls)) :
    Linked p l e R s m args below meth c T locs cells slots g r rest as := by
  obtain ⟨hM, hnest⟩ := lk_50 hq
  obtain ⟨hws, hF⟩ := mRow_words hM hr
  obtain ⟨-, hlf, w, hw, hm⟩ := lk_ok hq
  simp only [lkW, hr] at hw
  simp only [lkF, hr, Bool.and_eq_true] at hlf
  have hb := Nat.eq_of_beq_eq_true hlf.1.1
  have hna : r.2.2.2.2.2.2.1 < 100 := Nat.blt_eq.mp hlf.1.2
  have hcl : r.1.2.2.1 < 100 := Nat.blt_eq.mp hlf.2
  have hcode := hts _ (tb2 (hws (codeW r) (by simp [mWs])) (stay_code r))
  have hini := hts _ (tb2 (hws (iniW r) (by simp [mWs])) (stay_ini r))
  have hkind := hts _ (tb2 (hws (kindW r) (by simp [mWs])) (stay_kind r))
  have hsel := hts _ (tb2 (hws (selW r) (by simp [mWs])) (stay_sel r))
  simp only [okF, Bool.and_eq_true, decide_eq_true_eq] at hF
  obtain ⟨⟨⟨⟨⟨f1, f2⟩, f3⟩, f4⟩, f5⟩, f6⟩ := hF
  obtain ⟨mk, methY, cY, c1, c2, c3, c4, c5, c6, c7, c8, c9⟩ := codeW_spec hcode
  have hy : (mY r).cls ≠ "java/lang/invoke/MethodHandle" ∧ (mY r).cls ≠ "java/lang/invoke/VarHandle" := ⟨f3, f4⟩
  have hpl : e.platform.magicAccessors = ({} : Platform).magicAccessors := by rw [X.admits.platform]
  obtain ⟨kP, hkP, -⟩ := className_of_methodNamed c1
  have hinitP : kP.init = .initialized := Cond.initialized_spec (findClass_of_methodNamed c1) hkP hini
  have hd9 : parseMethodDescriptor r.1.2.1 = some methY.sig := c9
  rw [hd9] at f5
  dsimp only at f5
  have f5' := Nat.eq_of_beq_eq_true f5
  rcases hk with ⟨hb2, hd⟩ | ⟨hb1, hd, a, tl, ha⟩ | ⟨hb0, hd, a, tl, cell, ha, hcell, hst, hcls⟩
  · have hs : r.1.2.2.2.1 = true := by
      cases q : r.1.2.2.2.1 with
      | true => rfl
      | false => exfalso; rw [q] at hb; cases q2 : r.1.2.2.2.2 <;> rw [q2] at hb <;> dsimp only [cond_true, cond_false] at hb <;> omega
    have hnn : nestL.elem (own, k) = false := by
      cases q : nestL.elem (own, k) with
      | false => rfl
      | true => have := hnest q; omega
    rw [hnn, cond_false] at hw
    cases hw
    have hstatic : methY.isStatic = true := Cond.static_spec c1 c2 (by have := hkind; unfold kindW at this; rw [hs, cond_true] at this; exact this)
    obtain ⟨vm₁, X₁, hstep₁⟩ := X.invokestatic hx hown (hts _ (tb2 hm rfl)) c1 c2 hstatic hkP hinitP hy (g := g) hg (argsL := as) (rest := rest) (by rw [hn, f5', hs, cond_true]) hstack hd
    refine ⟨mk, vm₁, methY, cY, X₁.warmed, X₁, X₁.named c1, (by rw [X₁.warmed.alike.method?]; exact c2), c3, c5, fun target h => hstep₁ _ fun acts => by rw [doInvoke_state]; exact h⟩
  · have hs : r.1.2.2.2.1 = false ∧ r.1.2.2.2.2 = true := by
      cases q : r.1.2.2.2.1 <;> cases q2 : r.1.2.2.2.2 <;> rw [q, q2] at hb <;> dsimp only [cond_true, cond_false] at hb <;> first | exact ⟨rfl, rfl⟩ | (exfalso; omega)
    have hI := mRow_okIn hr
    simp only [okIn, hs.2, Bool.not_true, Bool.false_or, Bool.and_eq_true] at hI
    have hcode' : (Cond.code (mY r) r.2.1 r.2.2.1 none).before args s = true := by
      have := hcode; unfold codeW at this
      rw [hI.1, cond_true, Option.isNone_iff_eq_none.mp hI.2] at this; exact this
    have hinst : (Cond.instanceMethod (mY r)).before args s = true := by have := hkind; unfold kindW at this; rw [hs.1, cond_false] at this; exact this
    have hy1 : (mY r).name = "<init>" := by
      rw [hs.2] at f1; exact of_decide_eq_true f1.symm
    have hl : ∀ sig, parseMethodDescriptor (mY r).desc = some sig → tl.length = sig.parameters.length := by
      intro sig h
      cases c9.symm.trans h
      rw [ha] at hn; rw [hs.1, cond_false] at f5'
      have : tl.length + 1 = _ := hn
      omega
    have hstack' : g.stack = tl.reverse ++ .ref a :: rest := by rw [hstack, ha, List.reverse_cons, List.append_assoc]; rfl
    subst hg
    subst ha
    cases hN : nestL.elem (own, k) with
    | false =>
      rw [hN, cond_false] at hw
      cases hw
      obtain ⟨mk', methM, cM, kP', vm₁, hnamed, hmethM, hcodeM, -, hlocalsM, -, -, -, hW₁, hstep₁⟩ := Steps.initColdArgs (e := e) X.here hx X.warmed hpl hown hy1 hy (hts _ (tb2 hm rfl)) hinst hcode' (f := g) rfl hl hstack' hd
      have X₁ := X.noted hW₁
      exact ⟨mk', vm₁, methM, cM, X₁.warmed, X₁, X₁.named hnamed, (by rw [X₁.warmed.alike.method?]; exact hmethM), hcodeM, hlocalsM, fun target h => hstep₁ _ fun acts => by rw [doInvoke_state]; exact h⟩
    | true =>
      rw [hN, cond_true] at hw
      cases hw
      obtain ⟨mk', methM, cM, kP', vm₁, hnamed, hmethM, hcodeM, -, hlocalsM, -, -, -, hW₁, hstep₁⟩ := Steps.initColdArgsNest (e := e) X.here hx X.warmed hpl hown hy1 hy (hts _ (tb2 hm rfl)) hinst hcode' (f := g) rfl hl hstack' hd
      have X₁ := X.noted hW₁
      exact ⟨mk', vm₁, methM, cM, X₁.warmed, X₁, X₁.named hnamed, (by rw [X₁.warmed.alike.method?]; exact hmethM), hcodeM, hlocalsM, fun target h => hstep₁ _ fun acts => by rw [doInvoke_state]; exact h⟩
  · have hs : r.1.2.2.2.1 = false ∧ r.1.2.2.2.2 = false := by
      cases q : r.1.2.2.2.1 <;> cases q2 : r.1.2.2.2.2 <;> rw [q, q2] at hb <;> dsimp only [cond_true, cond_false] at hb <;> first | exact ⟨rfl, rfl⟩ | (exfalso; omega)
    have hnn : nestL.elem (own, k) = false := by
      cases q : nestL.elem (own, k) with
      | false => rfl
      | true => have := hnest q; omega
    rw [hnn, cond_false] at hw
    cases hw
    have hinst : (Cond.instanceMethod (mY r)).before args s = true := by have := hkind; unfold kindW at this; rw [hs.1, cond_false] at this; exact this
    have hsel' : (Cond.selects (cN r.1.2.2.1) (mY r) (mY r)).before args s = true := by have := hsel; unfold selW at this; rw [hs.1, hs.2, Bool.or_false, cond_false] at this; exact this
    obtain ⟨mk', methM, hnamed, hmethM, hstM, habM⟩ := Cond.instanceMethod_spec hinst
    cases hnamed.symm.trans c1
    cases hmethM.symm.trans c2
    obtain ⟨c2', r2, m2, q1, q2, q3, q4, kP2, hkP2, hkPi⟩ := Cond.selects_spec hsel'
    cases hcls.symm.trans q1
    cases (State.methodFound?_of_named hnamed hy).symm.trans q2
    cases hnamed.symm.trans q3
    have hselP : selectMethod e.platform s.vm cell.cls mk = .method mk := by rw [Launch.admits_selectMethod X.admits]; exact q4
    have hstack' : g.stack = tl.reverse ++ .ref a :: rest := by rw [hstack, ha, List.reverse_cons, List.append_assoc]; rfl
    have hl : tl.length = methY.sig.parameters.length := by
      rw [ha] at hn; rw [hs.1, cond_false] at f5'
      have : tl.length + 1 = _ := hn
      omega
    subst ha
    obtain ⟨vm₁, X₁, hstep₁⟩ := X.invokevirtual hx hown (hts _ (tb2 hm rfl)) hnamed hmethM hstM hkP2 hkPi hy (a := a) (cell := cell) hcell
      (fun z h => by rw [h] at hst; cases hst) hselP hmethM habM hkP2 hkPi (g := g) hg (argsL := tl) (rest := rest) hl hstack' hd
    exact ⟨mk, vm₁, methY, cY, X₁.warmed, X₁, X₁.named c1, (by rw [X₁.warmed.alike.method?]; exact c2), c3, c5, fun target h => hstep₁ _ fun acts => by rw [doInvoke_state]; exact h⟩
end IV
