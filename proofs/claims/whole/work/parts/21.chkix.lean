/-! String.checkIndex, an index that is within -/
theorem w_chk : Cond.static y_chk ∈ lw_tbl ∧ Cond.code y_chk Str.checkIndex.code 2 none ∈ lw_tbl ∧ Cond.fieldLink "java/lang/String" 1053 "jdk/internal/util/Preconditions" "SIOOBE_FORMATTER" "Ljava/util/function/BiFunction;" ∈ lw_tbl ∧ Cond.methodLink "java/lang/String" 1059 Preconditions.checkIndex.name ∈ lw_tbl ∧ Cond.static Preconditions.checkIndex.name ∈ lw_tbl ∧ Cond.initialized "jdk/internal/util/Preconditions" ∈ lw_tbl ∧ Cond.code Preconditions.checkIndex.name Preconditions.checkIndex.code 3 (some .int) ∈ lw_tbl ∧ Cond.initialized "java/lang/String" ∈ lw_tbl :=
  ⟨List.mem_of_getElem? (i := 746) (by decide +kernel), List.mem_of_getElem? (i := 747) (by decide +kernel), List.mem_of_getElem? (i := 748) (by decide +kernel), List.mem_of_getElem? (i := 750) (by decide +kernel), List.mem_of_getElem? (i := 751) (by decide +kernel), List.mem_of_getElem? (i := 143) (by decide +kernel), List.mem_of_getElem? (i := 752) (by decide +kernel), List.mem_of_getElem? (i := 141) (by decide +kernel)⟩
section CK
variable {p : Program} {l : Launch} {e : Env} {R : Room} {s : State} {m : MethodId} {args : Array Value} {below : List Frame} {meth : Method} {c : Code} {H : Heap} {locs : List Loc} {cells slots : Nat} {Q : State → Prop}
variable {cc : ByteArray} {pc len nL : Nat} {re : Array Slot} {G : LG} {ls st : List Value} {t t0 : Lm} {i : Instr} {own : Nat}
theorem sm_chk (hx : p.tables.exec = Jvm.exec) (hb : c.code = cc) (hml : c.maxLocals = nL) (hown : s.vm.findClass (cN own) = some m.cls) (hts : ∀ w ∈ lw_tb2, w.before args s = true) (hK : Kn G s) (hR : Rep G t H) (hL : re.size = nL) {k a b : Nat} {x n : Int32} (hd : decode cc pc = .ok (.invokestatic k, 3)) (hq : lk own k = some (55, a, b)) (h0 : ¬ x < 0) (hn : x < n) (hr : st.length ≤ 12) (hRf : 2 ≤ R.frames) (hRl : 80 ≤ R.locals) (hc : cells ≤ R.cells) (hs : slots ≤ R.slots)
    (kk : W p l e R s m args below meth c H locs cells slots Q (F0 m (pc + 3) re (st.map (lV G)))) : W p l e R s m args below meth c H locs cells slots Q (F0 m pc re (.int n :: .int x :: st.map (lV G))) := by
  obtain ⟨-, -, w, hw, hm⟩ := lk_ok hq
  cases hw
  have hcat := cat_le G hr
  obtain ⟨w1, w2, w3, w4, w5, w6, w7, w8⟩ := w_chk
  intro T hT X
  have hcode := hts _ (tb2 w2 rfl)
  obtain ⟨mk, hnamed⟩ := Cond.code_named hcode
  obtain ⟨methM, cM, hmethM, hcM, -, hlM, -, -, -, hsigM⟩ := Cond.code_spec hnamed hcode
  have hstatic : methM.isStatic = true := Cond.static_spec hnamed hmethM (hts _ (tb2 w1 rfl))
  obtain ⟨kP, hkP, -⟩ := className_of_methodNamed hnamed
  have hinitP : kP.init = .initialized := Cond.initialized_spec (findClass_of_methodNamed hnamed) hkP (hts _ (tb2 w8 rfl))
  have hsl : ([Value.int x, Value.int n] : List Value).length = methM.sig.parameters.length := by
    rw [show parseMethodDescriptor y_chk.desc = some ⟨[.int, .int], none⟩ from by decide +kernel] at hsigM
    rw [← Option.some.inj hsigM]; rfl
  obtain ⟨vm₁, X₁, hstep₁⟩ := X.invokestatic hx hown (hts _ (tb2 hm rfl)) hnamed hmethM hstatic hkP hinitP (by decide) (g := F0 m pc re (.int n :: .int x :: st.map (lV G))) rfl (argsL := [.int x, .int n]) (rest := st.map (lV G)) hsl rfl (by rw [hb]; exact hd)
  have hts1 : ∀ w ∈ lw_tb2, ∀ a' : Array Value, w.before a' (T.setVm vm₁) = true := fun w hw a' => tb2_at (U := T.setVm vm₁) X₁.warmed hts w hw
  -- the formatter
  have hfmt : ∃ fmt : Value, fmt.isRef = true ∧ va_Z "jdk/internal/util/Preconditions" "SIOOBE_FORMATTER" "Ljava/util/function/BiFunction;" fmt (gO G) s (gH G) := by
    rcases hK.2.2.2.2.2.2.2.2.2.1 with h | ⟨q, h⟩
    · exact ⟨_, rfl, h⟩
    · exact ⟨_, rfl, h⟩
  obtain ⟨fmt, hf1, hf2⟩ := hfmt
  have hZ : va_Z "jdk/internal/util/Preconditions" "SIOOBE_FORMATTER" "Ljava/util/function/BiFunction;" fmt (gO G) (T.setVm vm₁) H := (hf2.moved X₁.warmed.alike).kept fun a ha _ => hR.2.2.2.2.1 a ha
  obtain ⟨cf, kf, fi, f, aS, cellS, z1, z2, z3, z4, z5, z6, z7, -⟩ := hZ
  have hU : ∀ g mk a', ((T.setVm vm₁).calling g mk a').vm = vm₁ ∧ ((T.setVm vm₁).calling g mk a').heap = H := fun g mk a' => by
    rw [State.calling_eq X₁.here.top]; exact ⟨rfl, hT⟩
  have hcall := callT (l := l) (R := R) (p := p) (e := e) (below := below) (s := s) (sargs := args) (m := m) (meth := meth) (c := c) (U := T.setVm vm₁) (g := F0 m pc re (st.map (lV G))) (mk := mk) (a := #[.int x, .int n]) (len := 3) (W := 24) (y := y_chk) (ig := .invokestatic k) (E := fun _ _ _ => True)
    (Cold.checkIndex.met l x n fmt) (fun a first o t hQ => ⟨[], 0, 0, trivial, Or.inl hQ.1.1, hQ.1.2.1, hQ.1.2.2.sameButNew 0 0⟩) X₁ rfl (by show re.size = _; rw [hml]; exact hL) (by rw [hb]; exact hd) (by show 2 * 0 + ((st.map (lV G)).map fun v => v.category).sum ≤ 24; omega) (X₁.named hnamed) (by rw [X₁.warmed.alike.method?]; exact hmethM) hcM hRf (by rw [hlM]; show 24 + (2 + 11) + 24 ≤ _; omega)
    (by
      simp only [Cold.checkIndex.spec, Cond.before_and, Bool.and_eq_true]
      exact ⟨hts1 _ (tb2 w2 rfl) _, rfl, hts1 _ (tb2 w3 rfl) _, hts1 _ (tb2 w4 rfl) _, hts1 _ (tb2 w5 rfl) _, hts1 _ (tb2 w6 rfl) _⟩)
    (hts1 _ (tb2 w8 rfl) _) (by show cells + 0 ≤ _; omega) (by show slots + 0 ≤ _; omega)
    (by
      have hv := hU (F0 m pc re (st.map (lV G))) mk #[.int x, .int n]
      have hts2 : ∀ w ∈ lw_tb2, ∀ a' : Array Value, w.before a' ((T.setVm vm₁).calling (F0 m pc re (st.map (lV G))) mk #[.int x, .int n]) = true := fun w hw a' => tb2_at (by rw [hv.1]; exact X₁.warmed) hts w hw
      refine ⟨rfl, ⟨cf, fi, kf, f, aS, cellS, ?_, z2, z3, z4, by rw [hv.2]; exact z5, (fun q => by rw [q] at z6; cases z6), z7⟩, ?_, ?_⟩
      · rw [State.calling_eq X₁.here.top]; exact z1
      · obtain ⟨mP, hnP⟩ := Cond.code_named (hts2 _ (tb2 w7 rfl) #[])
        obtain ⟨methP, cP, hmP, -, -, -, -, -, -, hsP⟩ := Cond.code_spec hnP (hts2 _ (tb2 w7 rfl) #[])
        exact ⟨mP, methP, hnP, hmP, hsP⟩
      · simp only [Preconditions.checkIndex.spec, Cond.before_and, Bool.and_eq_true]
        refine ⟨hts2 _ (tb2 w7 rfl) _, rfl, rfl, rfl, ?_, ?_, ?_⟩
        · cases fmt <;> first | rfl | cases hf1
        · have : (0 : Int32) ≤ x := by
            rw [Int32.le_iff_toInt_le]; rw [Int32.lt_iff_toInt_lt] at h0; omega
          simp [Cond.before, Cond.holds, Cond.value, Term.eval, this]
        · simp [Cond.before, Cond.holds, Cond.value, Term.eval, hn])
  obtain ⟨o, t', L, k', n', -, hQ, hE, X2, hst⟩ := hcall
  obtain ⟨⟨-, hW2, hsame⟩, ho⟩ := hQ
  subst ho
  have hheap : t'.heap = H := by
    have h1 := State.sameBut_nil.mp hsame
    have h2 : t'.heap = ((T.setVm vm₁).calling (F0 m pc re (st.map (lV G))) mk #[.int x, .int n]).heap := by
      have := congrArg State.heap h1
      exact this
    rw [h2]; exact (hU _ _ _).2
  have hslot : t'.slotsUsed = T.slotsUsed := by
    have h1 := State.sameBut_nil.mp hsame
    have h2 : t'.slotsUsed = ((T.setVm vm₁).calling (F0 m pc re (st.map (lV G))) mk #[.int x, .int n]).slotsUsed := by
      have := congrArg State.slotsUsed h1
      exact this
    rw [h2, State.calling_eq X₁.here.top]; rfl
  have hW3 : s.WarmedH t'.vm := State.WarmedH.trans X₁.warmed (show (T.setVm vm₁).WarmedH t'.vm from hW2)
  have hst2 : (({ T.setVm vm₁ with heap := t'.heap, slotsUsed := t'.slotsUsed } : State).setVm t'.vm) = T.setVm t'.vm := by
    rw [hheap, hslot, ← hT]; rfl
  rw [hst2] at hst
  rcases hst with ⟨v, hv, hs3⟩ | ⟨z, hz, -⟩
  · cases hv
    obtain ⟨tg, a1, a2⟩ := kk (T.setVm t'.vm) hT (X.noted hW3)
    exact ⟨tg, hstep₁ _ (fun acts => by rw [doInvoke_state]; exact hs3.trans a1), a2⟩
  · cases hz
end CK
