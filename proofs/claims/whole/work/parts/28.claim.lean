/-! THE CLAIM OUT OF THE LIGHT MACHINE'S RUN -/
def R_law : String := "TurfBogLaw"
/-- all that is left: on every script of at most 3072 ints the light machine comes to true -/
def LawTrue : Prop := ∀ (L : Nat) (xs : Nat → Int32), L ≤ 3072 → ∃ (N : Nat) (t' : Lm), s_callB mTab N 831 369 [.ref lmScr] (st0 L xs) = some (.inl (some (.int 1)), t')
def lw_P (b : Addr) (xs : List Int32) (args : Array Value) (s : State) : Prop := args = #[.ref b] ∧ s.IntsAt b xs ∧ xs.length ≤ 3072 ∧ lawC.before args s = true
def lw_Q (_ : Array Value) (s : State) (o : Outcome) (t : State) : Prop := o = .returned (some (.int 1)) ∧ Framed s o t [] 601024 7293034
theorem row369 : ∃ r : Mr, mRow 369 = some r ∧ r.2.1 = code ∧ r.2.2.1 = 7 ∧ r.2.2.2.1 = ret ∧ r.2.2.2.2.1 = [] ∧ r.1.2.2.1 = 19 ∧ r.1.2.2.2.2 = false := ⟨_, rfl, rfl, rfl, rfl, rfl, rfl, rfl⟩
theorem fl_traces {l : Launch} (hfl : l.flags = flags0) : ∀ e, l.admits e → e.platform.stackTraces = false := by
  intro e ha
  rw [ha.platform]
  show l.stackTraces = false
  unfold Launch.stackTraces
  rw [hfl]
  decide +kernel
set_option maxHeartbeats 4000000 in
theorem lw_walk (hLT : LawTrue) (l : Launch) (hfl : l.flags = flags0) (b : Addr) (xs : List Int32) : MetFree l x (headSpec (Jvm.Cond.code x code maxLocals ret :: tables_1) room_1) (lw_P b xs) (fun _ _ _ _ _ => True) lw_Q := by
  refine MetFree.of_bodyS (code := code) (maxLocals := maxLocals) (ret := ret) (by decide) ?_ ?_
  · intro args s m h hn
    obtain ⟨meth, c, h1, h2, h3, h4, h5, h6, -, -⟩ := Cond.code_spec hn (atoms_spec (ws := Jvm.Cond.code x code maxLocals ret :: tables_1) h _ List.mem_cons_self)
    exact ⟨meth, c, h1, h2, h3, h4, h5, h6⟩
  · intro p e s m args below meth c s₁ B hml0 hP _
    obtain ⟨rfl, hx, hbd, hgv⟩ := hP
    obtain ⟨scr, harrAt, hlist, hof, hsmall⟩ := hx
    obtain ⟨hcb, hkn, -, -⟩ := State.arrayAt?_spec harrAt
    have hown : s.vm.findClass R_law = some m.cls := findClass_of_methodNamed B.named
    have hts0 : ∀ c ∈ (Jvm.Cond.code x code maxLocals ret :: tables_1), c.before #[Value.ref b] s = true := atoms_spec (ws := Jvm.Cond.code x code maxLocals ret :: tables_1) B.pre
    have hts : ∀ w ∈ lw_tbl, w.before #[Value.ref b] s = true := k2_hts_sels lw_privs (fun w hw => hts0 w (List.mem_cons_of_mem _ hw)) lw_privs_ok
    have hml : c.maxLocals = 7 := B.maxLocals_eq (hts0 _ List.mem_cons_self)
    have X₀ : Stand p l e room_1 s m #[Value.ref b] below meth c s₁ [] 0 0 := Stand.of_body B
    have hempty : c.exceptionTable.toList = [] := by
      obtain ⟨meth', c', h1, h2, -, -, -, -, h7, -⟩ := Cond.code_spec B.named (hts0 _ List.mem_cons_self)
      cases B.method.symm.trans h1
      cases X₀.code.symm.trans h2
      have e2 : c.exceptionTable = #[] := by simpa using h7
      rw [e2]
    have hh0 : s₁.heap = s.heap := by rw [B.state]; rfl
    have hsz : scr.slots.size = xs.length := by rw [← Array.length_toList, hlist, List.length_map]
    have hval : ∀ j : Nat, j < xs.length → scr.slots[j]? = some (.int (xs.getD j 0)) := fun j hj => by
      rw [← Array.getElem?_toList, hlist]
      simp [hj]
    have hbl : b < s.heap.size := (Array.getElem?_eq_some_iff.mp hcb).1
    have hX : va_X b xs.length (fun j => xs.getD j 0) s s.heap := ⟨scr, hcb, hof, hkn, hsz, hval⟩
    -- the light machine
    obtain ⟨N, t', hrun⟩ := hLT xs.length (fun j => xs.getD j 0) hbd
    obtain ⟨ad, rwd, hAd⟩ := ads_of (A := fun q => s.heap.size ≤ q) hgv (fun a ha q => absurd q (by omega))
    have hA : Ad (g0 s ad rwd b xs.length (fun j => xs.getD j 0)) := ad_0 hAd hbl
    have hK : Kn (g0 s ad rwd b xs.length (fun j => xs.getD j 0)) s := kn_0 hts hgv hAd hX hbd
    have hR : Rep (g0 s ad rwd b xs.length (fun j => xs.getD j 0)) (st0 xs.length (fun j => xs.getD j 0)) s.heap := rep_0
    generalize hG : g0 s ad rwd b xs.length (fun j => xs.getD j 0) = G at hA hK hR
    have hgH : gH G = s.heap := by rw [← hG]; rfl
    have hgD : gD G lmScr = b := by rw [← hG]; exact gd0_scr s ad rwd b
    have hN0 : lmN (st0 xs.length (fun j => xs.getD j 0)) = 0 := rfl
    have hS0 : lmS (st0 xs.length (fun j => xs.getD j 0)) = 0 := rfl
    generalize st0 xs.length (fun j => xs.getD j 0) = t0 at hrun hR hN0 hS0
    obtain ⟨r, hr, r1, r2, r3, r4, r5, r6⟩ := row369
    rw [s_callB] at hrun
    have hT : mTab 369 = some (r.2.2.1, mF r) := by unfold mTab; rw [hr]; rfl
    rw [hT] at hrun
    dsimp only at hrun
    cases hent : s_enter r.2.2.1 [.ref lmScr] with
    | none => rw [hent] at hrun; cases hrun
    | some ls =>
      rw [hent] at hrun
      dsimp only at hrun
      have hFx : Fx p e room_1 s m #[Value.ref b] meth c G (mF r) r.2.1 r.2.2.1 t0 := by
        refine ⟨B.exec, by rw [r1]; exact B.bytes, by rw [r2]; exact hml, ?_, fun w hw => hts w (List.mem_filter.mp hw).1, hK, hA, fun q _ => by rw [hgH], fl_traces hfl e B.admits, B.notSynchronized, fun hi => ?_, rfl, ?_, ?_, ?_, ?_⟩
        · show s.vm.findClass (cN r.1.2.2.1) = _
          rw [r5]; exact hown
        · have : r.1.2.2.2.2 = true := hi
          rw [r6] at this; cases this
        · rw [hN0]; exact Nat.le_refl _
        · rw [hS0]; exact Nat.le_refl _
        · show 8 ≤ 2048; decide
        · show 300 ≤ 84000; decide
      have hC : CtrD l G N 830 := ctr_all (fl_traces hfl) hA N 830
      have hLv := enter_Lv G hent
      have hargs : (([.ref lmScr] : List Value).map (lV G)).toArray = #[Value.ref b] := by
        show #[Value.ref (gD G lmScr)] = _
        rw [hgD]
      rw [hargs] at hLv
      have hW := sim_run (p := p) (below := below) (R := room_1) hC hr hFx (by rw [r3]; exact B.returns) (by rw [r4, hempty]; exact trivial) (by show 830 + 9 ≤ 2048; decide) (by show 100 * (830 + 1) + 300 ≤ 84000; decide) N (o := .inl (some (.int 1))) (t' := t') (pc := 0) (ls := ls) (st := []) (t := t0) (H := s.heap) (locs := []) hrun hR hLv (fun q hq => by cases hq) (Nat.le_refl _) (Nat.le_refl _)
      rw [Nat.sub_self, Nat.sub_self] at hW
      obtain ⟨T, a1, ⟨b1, b2, b3, Lo, ⟨b4, b5, b6⟩, b7⟩, -, -, -⟩ := hW s₁ hh0 X₀
      refine ⟨T, .returned (some (.int 1)), ?_, b1, b2, rfl, ⟨_, rfl⟩, b5, b6.weaken (fun q hq hlt => ?_) ?_ ?_⟩
      · rw [r2] at a1
        exact a1
      · exfalso
        have := b7 q hq
        rw [hgH] at this
        exact absurd hlt (Nat.not_lt.mpr this)
      · rw [hN0, Nat.sub_zero]; exact b3.2.1
      · rw [hS0, Nat.sub_zero]; exact b3.2.2.1
theorem lw_pre_spec {args : Array Value} {s : State} (h : lawC.before args s = true) (hr : rest_1_c.before args s = true) : ∃ (b : Addr) (xs : List Int32), lw_P b xs args s := by
  have hs := flat_of_before _ h
  have hq := flat_of_before _ hr
  have hc : (Cond.count 1).before args s = true := hs _ (by decide +kernel)
  have harr : (Cond.arrayOf (.arg 0) .int).before args s = true := hs _ (by decide +kernel)
  have hle : (Cond.le (.length (.arg 0)) (.int 3072)).before args s = true := hs _ (by decide +kernel)
  have hlen : (Cond.isInt (.length (.arg 0))).before args s = true := hq _ (by decide +kernel)
  have hall : (Cond.all (.arg 0) (.isInt (.elem (.arg 0) (.index 0)))).before args s = true := hq _ (by decide +kernel)
  obtain ⟨b, xs, hb, hx⟩ := State.ints_of_pre rfl harr hlen hall
  have hsm : xs.length < 2 ^ 31 := hx.choose_spec.2.2.2
  have hev : (Term.length (.arg 0)).eval args s none [] s = some (.int xs.length.toInt32) := hx.length_eval hb
  have hv := Cond.le_ints hev (show (Term.int 3072).eval args s none [] s = some (.int 3072) from rfl)
  have hd : xs.length.toInt32 ≤ 3072 := by
    simpa [Cond.before, Cond.holds, hv] using hle
  have hN : xs.length ≤ 3072 := (Int32.ofNat_le_ofNat hsm (by decide)).mp (show Int32.ofNat xs.length ≤ Int32.ofNat 3072 from hd)
  exact ⟨b, xs, Cond.one_arg hc (show args[0]? = some (.ref b) from hb), hx, hN, h⟩
theorem lw_comes (hLT : LawTrue) (l : Launch) (hfl : l.flags = flags0) : Comes l x (Jvm.Cond.code x code maxLocals ret :: tables_1) room_1 (fun tb e args s => Calls_1 tb e args s ∧ rest_1 tb e args s ∧ Pre_1 tb e args s)
    (fun _ _ args s o t => lw_Q args s o t) := by
  intro p e ha hc hk s m args below hf hfit hheap happ hpre
  obtain ⟨b, xs, hP⟩ := lw_pre_spec hpre.2.2 hpre.2.1
  obtain ⟨k, o, h1, h2, h3, hQ⟩ := lw_walk hLT l hfl b xs p e ha hc hk s m args below hf ((Spec.applies_iff_loose hf).mp happ).1 hP trivial
  exact ⟨k, o, h1, h2, h3, hQ⟩
theorem lw_frame {s t : State} {o : Outcome} {args : Array Value} (h : Framed s o t [] 601024 7293034) :
    Framed s o t (fieldLocs frame_1_writes args s ++ arrayLocs frame_1_arrays args s ++ staticLocs frame_1_statics s) 601024 7293034 := h
theorem lw_limb (hLT : LawTrue) (L : Cond) (hL : ∀ (args : Array Value) (s t : State), L.after args s (.returned (some (.int 1))) t = true) :
    ArmFor flags0 classFile x code maxLocals ret World_1 tables_1 room_1 Calls_1 rest_1 Pre_1
      (fun tb e a s o t => postC L tb e a s o t ∧ Framed s o t (fieldLocs frame_1_writes a s ++ arrayLocs frame_1_arrays a s ++ staticLocs frame_1_statics s) 601024 7293034) := by
  intro l hfl _ _ p e ha hc hk s m args below hf hfit hheap happ hpre
  obtain ⟨k, o, h1, h2, h3, rfl, hF⟩ := lw_comes hLT l hfl p e ha hc hk s m args below hf hfit hheap happ hpre
  exact ⟨k, _, h1, h2, h3, hL args s _, lw_frame hF⟩
theorem i_vc_of (hLT : LawTrue) : Claimed_1_1 ∧ Claimed_1_2 := ⟨lw_limb hLT limb_1_1 (fun args s t => by simp [limb_1_1, Cond.after, Cond.holds, Cond.value]), lw_limb hLT limb_1_2 (fun args s t => Cond.after_iff.mpr (by
  first | (rw [show limb_1_2 = Cond.eq .result (.int 1) from rfl, Cond.eq_ints (x := 1) (y := 1) rfl rfl]; simp; done) | (simp [limb_1_2, Cond.value, Term.eval]; done)))⟩
