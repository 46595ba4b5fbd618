/-! exceptions' constructors: the words -/
def exI (ci : Nat) : Nat := bif Nat.beq ci 17 then 13 else 7
def exB (ci : Nat) : ByteArray := bif Nat.beq ci 17 then ⟨#[0x2a, 0x2b, 0xb7, 0x00, 0x0d, 0xb1]⟩ else Bundle.six
def exRT : String := "java/lang/RuntimeException"
def exT : List Cond := Bundle.throwableAtoms.filter stayW ++ Bundle.throwableSAtoms ++ Bundle.chainSAtoms exRT ["java/lang/Exception"] ++ [.fieldLink Bundle.tN 198 Bundle.tN "backtrace" "Ljava/lang/Object;", .lays Bundle.tN Bundle.tN "backtrace" "Ljava/lang/Object;"]
def exW (ci : Nat) : List Cond := Bundle.passSAtoms (cN ci) exRT (exI ci) (exB ci) ++ [.instantiable (cN ci) 6, .selects (cN ci) Bundle.tFill0 Bundle.tFill0, .selects (cN ci) Bundle.tFill Bundle.tFill, .lays (cN ci) Bundle.tN "cause" "Ljava/lang/Throwable;", .lays (cN ci) Bundle.tN "stackTrace" Bundle.steD, .lays (cN ci) Bundle.tN "suppressedExceptions" Bundle.listD, .lays (cN ci) Bundle.tN "detailMessage" "Ljava/lang/String;", .lays (cN ci) Bundle.tN "backtrace" "Ljava/lang/Object;"]
def exTP : List Nat := [145, 843, 852, 858, 861, 863, 844, 845, 162, 163, 846, 851, 859, 879, 833, 880, 835, 881, 837, 847, 849, 839, 875, 876, 878, 839, 869, 870, 871, 872, 827, 872, 873, 874, 875, 829, 842, 841]
def exWP : List (List Nat) := [[866, 867, 868, 869, 825, 822, 830, 831, 832, 834, 836, 838, 840],
  [902, 903, 904, 869, 825, 892, 894, 856, 895, 896, 897, 898, 899],
  [1015, 1016, 1017, 869, 825, 1005, 1007, 855, 1008, 1009, 1010, 1011, 1012],
  [1069, 1070, 1071, 869, 825, 1059, 1061, 857, 1062, 1063, 1064, 1065, 1066],
  [1136, 1137, 1138, 869, 825, 1126, 1128, 854, 1129, 1130, 1131, 1132, 1133]]
set_option maxRecDepth 1000000 in
theorem exT_ok : exT.map some = exTP.map (fun i => lw_tbl[i]?) ∧ exT.all stayW = true := ⟨by with_unfolding_all rfl, by with_unfolding_all rfl⟩
set_option maxRecDepth 1000000 in
theorem exW_ok : (List.range 5).map (fun c => (exW (14 + c)).map some) = exWP.map (fun l => l.map fun i => lw_tbl[i]?) ∧ (List.range 5).all (fun c => (exW (14 + c)).all stayW) = true := ⟨by with_unfolding_all rfl, by with_unfolding_all rfl⟩
theorem map_mem {ws : List Cond} {ps : List Nat} (h : ws.map some = ps.map (fun i => lw_tbl[i]?)) : ∀ w ∈ ws, w ∈ lw_tbl := by
  intro w hw
  have : some w ∈ ws.map some := List.mem_map.mpr ⟨w, hw, rfl⟩
  rw [h] at this
  obtain ⟨i, -, hi⟩ := List.mem_map.mp this
  exact List.mem_of_getElem? hi
theorem exT_mem : ∀ w ∈ exT, w ∈ lw_tb2 := fun w hw => tb2 (map_mem exT_ok.1 w hw) (List.all_eq_true.mp exT_ok.2 w hw)
theorem exW_mem {ci : Nat} (h14 : 14 ≤ ci) (h19 : ci < 19) : ∀ w ∈ exW ci, w ∈ lw_tb2 := by
  obtain ⟨c, rfl⟩ : ∃ c, ci = 14 + c := ⟨ci - 14, by omega⟩
  have hc : c < 5 := by omega
  have h1 := congrArg (fun l => l[c]?) exW_ok.1
  simp only [List.getElem?_map, List.getElem?_range hc, Option.map_some] at h1
  intro w hw
  have h2 := List.all_eq_true.mp (List.all_eq_true.mp exW_ok.2 c (List.mem_range.mpr hc)) w hw
  refine tb2 ?_ h2
  cases hp : exWP[c]? with
  | none => rw [hp] at h1; cases h1
  | some ps =>
    rw [hp] at h1
    exact map_mem (Option.some.inj h1) w hw
section EX
variable {p : Program} {l : Launch} {e : Env} {R : Room} {s : State} {m : MethodId} {args : Array Value} {below : List Frame} {meth : Method} {c : Code} {H : Heap} {locs : List Loc} {cells slots : Nat} {Q : State → Prop}
variable {cc : ByteArray} {pc len nL : Nat} {re : Array Slot} {G : LG} {ls st : List Value} {t t0 : Lm} {i : Instr} {own : Nat}
theorem exN_fit {ci : Nat} (h14 : 14 ≤ ci) (h19 : ci < 19) : Bundle.fit (cN ci) = true := by
  have h : (List.range 5).all (fun c => Bundle.fit (cN (14 + c))) = true := by decide +kernel
  have := List.all_eq_true.mp h (ci - 14) (List.mem_range.mpr (by omega))
  rwa [show 14 + (ci - 14) = ci from by omega] at this
theorem exB_at (ci : Nat) : decode (exB ci) 0 = .ok (.aload_n 0, 1) ∧ decode (exB ci) 1 = .ok (.aload_n 1, 1) ∧ decode (exB ci) 2 = .ok (.invokespecial (exI ci), 3) ∧ decode (exB ci) 5 = .ok (.return_, 1) := by
  unfold exB exI
  cases Nat.beq ci 17 with
  | true => exact ⟨by decide +kernel, by decide +kernel, by decide +kernel, by decide +kernel⟩
  | false => exact ⟨Bundle.six_0, Bundle.six_1, Bundle.six_2, Bundle.six_5⟩
/-- a Throwable's two static rows, out of what is known -/
theorem exS {O f d : String} (h : lSt O f d s (gH G)) (hs0 : ∀ q, q < (gH G).size → s.heap[q]? = (gH G)[q]?) : (Cond.laysStatic O f d).before args s = true := by
  obtain ⟨c, k, i, fd, a, cell, h1, h2, h3, h4, h5, h6, h7, h8, h9⟩ := h
  exact Cond.laysStatic_of h1 h2 h3 h4 (by rw [hs0 a (Array.getElem?_eq_some_iff.mp h5).1]; exact h5) h6 h7 h8 h9
theorem va_Zq.val {C n d : String} {A : Nat → Prop} {U : State} {Hh : Heap} (h : va_Zq C n d A U Hh) : ∃ v : RefV, va_Z C n d v.v A U Hh := by
  rcases h with h | ⟨t, h⟩
  · exact ⟨⟨.null, rfl⟩, h⟩
  · exact ⟨⟨.ref t, rfl⟩, h⟩
set_option maxHeartbeats 1000000 in
theorem sm_exc (hA : Ad G) (hx : p.tables.exec = Jvm.exec) (hb : c.code = cc) (hml : c.maxLocals = nL) (hown : s.vm.findClass (cN own) = some m.cls) (hts : ∀ w ∈ lw_tb2, w.before args s = true) (hK : Kn G s) (hR : Rep G t H) (hs0 : ∀ q, q < (gH G).size → s.heap[q]? = (gH G)[q]?) (htr : e.platform.stackTraces = false) (hL : re.size = nL)
    {k a ci y mg : Nat} (hd : decode cc pc = .ok (.invokespecial k, 3)) (hq : lk own k = some (52, ci, y)) (ha : a < lmN t) (hka : lmK t a = (ci, 0)) (hr : st.length ≤ 12) (hRf : 6 ≤ R.frames) (hRl : 200 ≤ R.locals) (hloc : ∀ q ∈ locs, (gH G).size ≤ q.base)
    (kk : ∀ (H' : Heap) (locs' : List Loc), Rep G (up1 (lmK t) a (ci, 1), lmI t, lmL t, lmR t, lmN t, lmS t) H' → (∀ q ∈ locs', (gH G).size ≤ q.base) → W p l e R s m args below meth c H' locs' cells slots Q (F0 m (pc + 3) re (st.map (lV G)))) :
    W p l e R s m args below meth c H locs cells slots Q (F0 m pc re (.ref mg :: .ref (gD G a) :: st.map (lV G))) := by
  obtain ⟨-, hF, w, hw, hm⟩ := lk_ok hq
  cases hw
  simp only [lkF, Bool.and_eq_true] at hF
  have h14 : 14 ≤ ci := Nat.le_of_ble_eq_true hF.1
  have h19 : ci < 19 := Nat.blt_eq.mp hF.2
  have hcat := cat_le G hr
  intro W0 hT X
  have hU := exS (args := args) hK.2.2.2.2.2.2.2.2.2.2.2.1 hs0
  have hV := exS (args := args) hK.2.2.2.2.2.2.2.2.2.2.2.2.1 hs0
  have howns : e.platform.frameOwnsMonitors = true := by rw [X.admits.platform]
  have hfin : e.platform.finalization = false := by rw [X.admits.platform]
  have hpl : e.platform.magicAccessors = ({} : Platform).magicAccessors := by rw [X.admits.platform]
  have aT : ∀ x ∈ exT, x.before args s = true := fun x hx' => hts x (exT_mem x hx')
  have aW : ∀ x ∈ exW ci, x.before args s = true := fun x hx' => hts x (exW_mem h14 h19 x hx')
  have aTh : ∀ x ∈ Bundle.throwableAtoms, x.before args s = true := by
    intro x hx'
    cases hst : stayW x with
    | true => exact aT x (by simp only [exT, List.mem_append, List.mem_filter]; exact Or.inl (Or.inl (Or.inl ⟨hx', hst⟩)))
    | false =>
      simp only [Bundle.throwableAtoms, List.mem_cons, List.not_mem_nil, or_false] at hx'
      rcases hx' with rfl | rfl | rfl | rfl | rfl | rfl | rfl | rfl | rfl | rfl | rfl | rfl | rfl | rfl | rfl | rfl | rfl | rfl | rfl | rfl | rfl | rfl | rfl | rfl <;> first | (cases hst; done) | exact hU | exact hV
  obtain ⟨T, Z0, L, -, Y⟩ := ThrowableC.of_atoms (args := args) howns hfin hpl aTh
  obtain ⟨Z, M, LZ, LM, hnZ⟩ := Init0T.ofS_atoms (args := args) hpl L Y (fun x hx' => aT x (by simp [exT, hx']))
  obtain ⟨P2, Ps, hlen, L2, hL2, hP2m, hlink2, hlink⟩ := Bundle.chainS (args := args) hpl hnZ ["java/lang/Exception"] exRT (by decide +kernel) (by decide +kernel) (fun x hx' => aT x (by simp [exT, hx']))
  have hlen1 : Ps.length = 1 := hlen
  obtain ⟨b0, b1, b2, b5⟩ := exB_at ci
  obtain ⟨P1, L1, hP1m, hP1s⟩ := PassC.ofS_atoms (args := args) hpl (X := cN ci) (Y := exRT) (index := exI ci) (bytes := exB ci) (Bundle.fit_spec (exN_fit h14 h19)).1 (by decide) b0 b1 b2 b5 (fun x hx' => aW x (by simp only [exW, List.mem_append]; exact Or.inl hx'))
  have hlink1 : P1.sup = P2.m := Option.some.inj (hP1s.symm.trans hP2m)
  have hfound : s.vm.findClass (cN ci) = some P1.m.cls := findClass_of_methodNamed hP1m
  obtain ⟨hfc, kX, hk, hord, hgx⟩ := hK.2.1 ci h14 h19
  have hcc : gC G ci = P1.m.cls := Option.some.inj (hfc.symm.trans hfound)
  rw [hcc] at hk
  have hcell : H[gD G a]? = some (freshCell P1.m.cls kX) := by
    have := hR.2.2.2.1 a ha
    unfold lCell at this
    rw [hka, if_neg (by show ¬ ci < 13; omega), if_pos (by show ci < 50; omega), if_pos rfl] at this
    rw [this.2]
    show some _ = some _
    rw [← hgx, hcc]
  have hsel0 : selectMethod e.platform s.vm P1.m.cls T.fill0 = .method T.fill0 := by
    obtain ⟨c2, r2, m2, q1, q2, q3, q4, -⟩ := Cond.selects_spec (aW (.selects (cN ci) Bundle.tFill0 Bundle.tFill0) (by simp [exW]))
    cases Option.some.inj (q1.symm.trans hfound)
    cases Option.some.inj (q2.symm.trans (State.methodFound?_of_named Y.fill0 (by decide)))
    cases Option.some.inj (q3.symm.trans Y.fill0)
    rw [Launch.admits_selectMethod X.admits]; exact q4
  have hselF : selectMethod e.platform s.vm P1.m.cls T.fill = .method T.fill := by
    obtain ⟨c2, r2, m2, q1, q2, q3, q4, -⟩ := Cond.selects_spec (aW (.selects (cN ci) Bundle.tFill Bundle.tFill) (by simp [exW]))
    cases Option.some.inj (q1.symm.trans hfound)
    cases Option.some.inj (q2.symm.trans (State.methodFound?_of_named Y.fill (by decide)))
    cases Option.some.inj (q3.symm.trans Y.fill)
    rw [Launch.admits_selectMethod X.admits]; exact q4
  -- the static rows' values
  obtain ⟨u0, cf1, kf1, fi1, f1, aa1, cell1, z1, -, -, z4, z5, z6, z7, -⟩ := va_Zq.val hK.2.2.2.2.2.2.2.1
  obtain ⟨sen, cf2, kf2, fi2, f2, aa2, cell2, y1, -, -, y4, y5, y6, y7, -⟩ := va_Zq.val hK.2.2.2.2.2.2.2.2.1
  have e1 := Option.some.inj (z1.symm.trans Y.unassigned)
  have e2 := Option.some.inj (y1.symm.trans Y.sentinel)
  simp only [Prod.mk.injEq] at e1 e2
  obtain ⟨-, rfl, -, rfl⟩ := e1
  obtain ⟨-, rfl, -, rfl⟩ := e2
  have ea1 : aa1 = T.aS := Option.some.inj (z4.symm.trans L.statics)
  have ea2 : aa2 = T.aS := Option.some.inj (y4.symm.trans L.statics)
  subst ea1
  subst ea2
  cases z5.symm.trans y5
  have hlt1 : T.aS < (gH G).size := (Array.getElem?_eq_some_iff.mp z5).1
  have hcellS : W0.heap[T.aS]? = some cell1 := by rw [hT, hR.2.2.2.2.1 _ hlt1]; exact z5
  have hneS : T.aS ≠ gD G a := by rw [hR.ad hA ha]; exact Nat.ne_of_lt (Nat.lt_of_lt_of_le hlt1 (Nat.le_add_right _ _))
  have hknownS : cell1.vm ≠ .unknown := fun q => by rw [q] at z6; cases z6
  obtain ⟨ci198, i198, fB, hk198, hg198, ha198, hsB, -, hnB, htB, hffB⟩ := Cond.ownField (t := .object "java/lang/Object") Y.found L.cls (by decide +kernel) (aT (.fieldLink Bundle.tN 198 Bundle.tN "backtrace" "Ljava/lang/Object;") (by simp [exT])) (aT (.lays Bundle.tN Bundle.tN "backtrace" "Ljava/lang/Object;") (by simp [exT])) e.platform hpl
  obtain ⟨iM, hffM⟩ := Y.msg
  obtain ⟨tyC, dC, hdC, hdnC⟩ := Cond.laysAt hfound hk Y.cause (aW (.lays (cN ci) Bundle.tN "cause" "Ljava/lang/Throwable;") (by simp [exW]))
  obtain ⟨tyS, dS, hdS, hdnS⟩ := Cond.laysAt hfound hk Y.stack (aW (.lays (cN ci) Bundle.tN "stackTrace" Bundle.steD) (by simp [exW]))
  obtain ⟨tyP, dP, hdP, hdnP⟩ := Cond.laysAt hfound hk Y.supp (aW (.lays (cN ci) Bundle.tN "suppressedExceptions" Bundle.listD) (by simp [exW]))
  obtain ⟨tyM, dM, hdM, hdnM⟩ := Cond.laysAt hfound hk hffM (aW (.lays (cN ci) Bundle.tN "detailMessage" "Ljava/lang/String;") (by simp [exW]))
  obtain ⟨tyB, dB, hdB, hdnB⟩ := Cond.laysAt hfound hk hffB (aW (.lays (cN ci) Bundle.tN "backtrace" "Ljava/lang/Object;") (by simp [exW]))
  have bC := Cond.laysApart hdB hdC hdnB hdnC (by rw [hnB, Y.causeName]; decide)
  have bS := Cond.laysApart hdB hdS hdnB hdnS (by rw [hnB, Y.stackName]; decide)
  have bP := Cond.laysApart hdB hdP hdnB hdnP (by rw [hnB, Y.suppName]; decide)
  have hskip : SkipFacts T e.platform s (fun u => u) u0 ((preparedCellV T.toThrowableT (freshCell P1.m.cls kX) (gD G a) u0 sen).withEntry W0.cur) :=
    ⟨{ ci198 := ci198, i198 := i198, fBack := fB }, ⟨hk198, hg198, ha198, hsB⟩, by
      have := fresh_default (c := P1.m.cls) tyB
      rw [htB] at this
      simpa [preparedCellV, Cell.setSlot, Cell.withEntry, Array.getElem?_setIfInBounds, bC, bS, bP, bC.symm, bS.symm, bP.symm, defaultValue] using this, fun _ _ => rfl⟩
  obtain ⟨tm, methC, cdC, kC, vm₁, hnC, -, -, -, -, -, -, -, hW₁, st1⟩ := Steps.initColdS (tb := p.tables) (e := e) (below := below) (s := s) (U := W0) X.here hx X.warmed hpl hown (t := Bundle.initS (cN ci)) rfl rfl (Bundle.fit_spec (exN_fit h14 h19)).2
    (hts _ (tb2 hm rfl)) (aW (.instanceMethod (Bundle.initS (cN ci))) (by simp [exW, Bundle.passSAtoms])) (bytes := exB ci) (maxL := 2) (aW (.code (Bundle.initS (cN ci)) (exB ci) 2 none) (by simp [exW, Bundle.passSAtoms]))
    (f := F0 m pc re (.ref mg :: .ref (gD G a) :: st.map (lV G))) rfl (a := gD G a) (msg := .ref mg) (rest := st.map (lV G)) rfl (by rw [hb]; exact hd)
  cases Option.some.inj (hnC.symm.trans hP1m)
  have X₁ := X.noted hW₁
  obtain ⟨vm₂, X₂, st2⟩ := X₁.ctorMessageOffV hx (g := F0 m pc re (st.map (lV G))) rfl (by show re.size = _; rw [hml]; exact hL) T L Z LZ M LM (P1 :: P2 :: Ps)
    (fun P hP => by
      rcases List.mem_cons.mp hP with rfl | hP
      · exact L1
      · rcases List.mem_cons.mp hP with rfl | hP
        · exact L2
        · exact hL2 P hP) ⟨hlink1, hlink2, hlink⟩ (u0 := u0) (sen := sen) (self := gD G a) (msg := .ref mg) rfl (cell := freshCell P1.m.cls kX) (cellS := cell1)
    (by show W0.heap[_]? = _; rw [hT]; exact hcell) (fun _ => by simp) (by simp) rfl rfl hsel0 hselF hcellS hneS hknownS z7 y7
    (Takes.of_laid hk hord tyC (by rw [Y.causeType]; rfl)) (Takes.of_laid hk hord tyS (by rw [Y.stackType]; exact fits_refV_array _ u0)) (Takes.of_laid hk hord tyP (by rw [Y.suppType]; exact fits_refV_object _ sen))
    (Takes.of_laid hk hord tyM (by rw [Y.msgType]; exact fits_refV_object _ ⟨.ref mg, rfl⟩)) Y.objLocals hskip htr [] (by rw [hb]; exact hd)
    (by simp only [List.length_cons, hlen1]; omega) (by simp only [List.length_cons, hlen1]; show 2 * 0 + ((st.map (lV G)).map fun v => v.category).sum + _ ≤ _; omega)
  have hlt : gD G a < ((W0.setVm vm₁).setVm vm₂).heap.size := by
    show gD G a < W0.heap.size
    rw [hT]; exact (Array.getElem?_eq_some_iff.mp hcell).1
  have hU2 := heapAt_setCell_self (s := (W0.setVm vm₁).setVm vm₂) (plainBareV T.toThrowableT (freshCell P1.m.cls kX) (gD G a) u0 sen (.ref mg)) hlt
  have hRep : Rep G (up1 (lmK t) a (ci, 1), lmI t, lmL t, lmR t, lmN t, lmS t) (((W0.setVm vm₁).setVm vm₂).setCell (gD G a) (plainBareV T.toThrowableT (freshCell P1.m.cls kX) (gD G a) u0 sen (.ref mg))).heap := by
    refine hR.put hA ha rfl rfl (fun b hb' => ?_) (fun _ _ => rfl) (fun _ _ => rfl) (fun _ _ => rfl) ?_ (fun q hq' => ?_) ?_
    · show up1 (lmK t) a (ci, 1) b = _
      unfold up1; rw [if_neg hb']
    · show (W0.heap.setIfInBounds _ _).size = _
      rw [Array.size_setIfInBounds, hT]
    · show (W0.heap.setIfInBounds _ _)[q]? = _
      rw [Array.getElem?_setIfInBounds, if_neg (fun z => hq' z.symm), hT]
    · have hk2 : lmK (up1 (lmK t) a (ci, 1), lmI t, lmL t, lmR t, lmN t, lmS t) a = (ci, 1) := by show up1 (lmK t) a (ci, 1) a = _; unfold up1; rw [if_pos rfl]
      unfold lCell
      rw [hk2, if_neg (by show ¬ ci < 13; omega), if_pos (by show ci < 50; omega)]
      exact ⟨h14, by rw [if_neg (by show ¬ (1 : Nat) = 0; omega)]; exact ⟨_, hU2, hcc.symm, rfl⟩⟩
  obtain ⟨tg, q1, q2⟩ := kk _ _ hRep (fun q hq' => by
    rcases List.mem_append.mp hq' with h1 | h1
    · exact hloc q h1
    · have hbq : q.base = gD G a := by
        simp only [List.mem_cons, List.not_mem_nil, or_false] at h1
        rcases h1 with rfl | rfl | rfl | rfl | rfl <;> rfl
      rw [hbq, hR.ad hA ha]; omega) _ rfl X₂
  exact ⟨tg, st1 _ (fun acts => by rw [doInvoke_state]; exact st2 _ q1), q2⟩
end EX
