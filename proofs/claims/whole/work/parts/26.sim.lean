/-! THE SIMULATION of a whole frame, and of calls to any depth -/
set_option maxRecDepth 4096 in
theorem ar_lo {x d y : Nat} (h : x ≤ 40) (h2 : 100 * (d + 1) + 300 ≤ y) : 24 + (x + 11) + (100 * d + 300) ≤ y := by omega
section SR
variable {p : Program} {l : Launch} {e : Env} {R : Room} {s : State} {m : MethodId} {args : Array Value} {below : List Frame} {meth : Method} {c : Code} {H : Heap} {locs : List Loc} {cells slots : Nat} {Q : State → Prop}
variable {cc : ByteArray} {pc len nL : Nat} {re : Array Slot} {G : LG} {ls st : List Value} {t t0 : Lm} {i : Instr} {own : Nat}
set_option maxHeartbeats 4000000 in
theorem sim_run {M : Nat} {r : Mr} {N d : Nat} (hC : CtrD l G N d) (hr : mRow M = some r) (hFx : Fx p e R s m args meth c G (mF r) r.2.1 nL t0) (hrt : meth.sig.returnType = r.2.2.2.1) (hh : hRs r.1.2.2.1 s args c.exceptionTable.toList r.2.2.2.2.1) (hRf : d + 9 ≤ R.frames) (hRl : 100 * (d + 1) + 300 ≤ R.locals) {o : Lo} {t' : Lm} :
    ∀ n {pc : Nat} {ls st : List Value} {t : Lm} {re : Array Slot} {H : Heap} {locs : List Loc}, s_run (s_callB mTab N d) (mF r) n pc ls st t = some (o, t') → Rep G t H → Lv G ls nL re → (∀ q ∈ locs, (gH G).size ≤ q.base) → lmN t0 ≤ lmN t → lmS t0 ≤ lmS t →
      W p l e R s m args below meth c H locs (lmN t - lmN t0) (lmS t - lmS t0) (RQ2 below G t0 s o t') (F0 m pc re (st.map (lV G)))
  | 0, _, _, _, _, _, _, _, h, _, _, _, _, _ => by cases h
  | n + 1, pc, ls, st, t, re, H, locs, h, hR, hL, hloc, hN, hS => by
    have ih := fun {pc ls st t re H locs} => sim_run hC hr hFx hrt hh hRf hRl (o := o) (t' := t') n (pc := pc) (ls := ls) (st := st) (t := t) (re := re) (H := H) (locs := locs)
    obtain ⟨hx, hb, hml, hown, hts, hK, hA, hs0, htr, hlocks, hini, hlk, hRc, hRs, hRf8, hRl3⟩ := id hFx
    have hcell := hR.2.1
    have hslot := hR.2.2.1
    rw [s_run] at h
    cases hst : s_step (mF r) pc ls st t with
    | none => rw [hst] at h; cases h
    | some x =>
      rw [hst] at h
      have hst2 := hst
      unfold s_step at hst2
      cases hat : lc_at pc (mF r).2.2.2.2.2 with
      | none => rw [hat] at hst2; cases hst2
      | some q =>
        obtain ⟨q, len⟩ := q
        rw [hat] at hst2
        obtain ⟨i, hi, hd⟩ := lc_at_ok (okM_of hr) hat
        match x, h, hst2 with
        | .inl (pc', ls', st', t2), h, hst2 =>
          exact sim_do hFx hi hd hst2 hR hL hloc hN hS (fun re' H' L' h1 h2 h3 h4 h5 => ih h h1 h2 h3 (Nat.le_trans hN h4) (Nat.le_trans hS h5))
        | .inr (.inr (.inl v)), h, hst2 =>
          cases h
          obtain ⟨g, j, k, z, ts⟩ := q
          obtain ⟨e1, e2⟩ := s_do_ret hst2
          have e1 : g = 24 := e1
          subst e1
          intro T hT X
          obtain ⟨tg, a1, a2⟩ := sm_ret (t0 := t0) hx hb hrt hlocks hR hloc hi hd e2 T hT X
          exact ⟨tg, a1, a2, hN, hS, fun x hx' => by cases hx'⟩
        | .inr (.inr (.inr a)), h, hst2 =>
          obtain ⟨g, j, k, z, ts⟩ := q
          obtain ⟨e1, ⟨rest, e2⟩, e3, e4, e5⟩ := s_do_thr hst2
          have e1 : g = 25 := e1
          subst e1
          subst e2
          refine sm_athrow hx hb hown hK hlocks hh hR hloc hi hd e3 e4 e5 (fun hp hf => ?_) (fun hf T hT X => ?_)
          · have h : (match s_find pc (lmK t a).1 r.2.2.2.2.1 with | some h => s_run (s_callB mTab N d) (mF r) n h ls [.ref a] t | none => some (.inr a, t)) = _ := h
            rw [hf] at h
            exact ih h hR hL hloc hN hS
          · have h : (match s_find pc (lmK t a).1 r.2.2.2.2.1 with | some h => s_run (s_callB mTab N d) (mF r) n h ls [.ref a] t | none => some (.inr a, t)) = _ := h
            rw [hf] at h
            cases h
            exact ⟨RQ_threw hR hloc hT X, hN, hS, fun x hx' => by cases hx'; exact ⟨e3, e4, e5⟩⟩
        | .inr (.inl (M', as, pc', rest)), h, hst2 =>
          obtain ⟨g, j, k, z, ts⟩ := q
          obtain ⟨b, e1, e2, e3, e4, e5, e6⟩ := s_do_call hst2
          have e1 : g = 23 := e1
          subst e1
          subst e4
          rw [hlk] at e2
          obtain ⟨sa1, sa2, sa3⟩ := s_args_spec e3
          subst sa1
          obtain ⟨hM', -⟩ := lk_50 e2
          obtain ⟨-, hlf, w, hw, -⟩ := lk_ok e2
          cases hr' : mRow M' with
          | none => simp only [lkW, hr'] at hw; cases hw
          | some r' =>
            simp only [lkF, hr', Bool.and_eq_true] at hlf
            have hbe := Nat.eq_of_beq_eq_true hlf.1.1
            have hna : r'.2.2.2.2.2.2.1 < 100 := Nat.blt_eq.mp hlf.1.2
            have hcl : r'.1.2.2.1 < 100 := Nat.blt_eq.mp hlf.2
            have hk1 : b / 100 % 100 = r'.2.2.2.2.2.2.1 := by
              rw [hbe]; cases r'.1.2.2.2.1 <;> cases r'.1.2.2.2.2 <;> dsimp only [cond_true, cond_false] <;> omega
            have hk2 : b % 100 = r'.1.2.2.1 := by
              rw [hbe]; cases r'.1.2.2.2.1 <;> cases r'.1.2.2.2.2 <;> dsimp only [cond_true, cond_false] <;> omega
            have hrw := mRow_okRw hr'
            simp only [okRw, Bool.and_eq_true, Bool.or_eq_true, decide_eq_true_eq] at hrw
            obtain ⟨⟨⟨⟨w1, w2⟩, w3⟩, w4⟩, w5⟩ := hrw
            dsimp only at h
            cases hcall : s_callB mTab N d M' as t with
            | none => rw [hcall] at h; cases h
            | some y =>
              obtain ⟨oc, tc⟩ := y
              rw [hcall] at h
              have hCt := hC M' as t oc tc hcall hM' r' hr' (by rw [← hk2]; exact lk_no21 e2)
              obtain ⟨hws', -⟩ := mRow_words hM' hr'
              intro T hT X
              have hmap : (as.reverse ++ rest).map (lV G) = (as.map (lV G)).reverse ++ rest.map (lV G) := by rw [List.map_append, List.map_reverse]
              have hlinked : Linked p l e R s m args below meth c T locs (lmN t - lmN t0) (lmS t - lmS t0) (F0 m pc re ((as.reverse ++ rest).map (lV G))) r' (rest.map (lV G)) (as.map (lV G)) := by
                refine inv_link X hx hown hts e2 hr' (by rw [List.length_map, sa2, hk1]) rfl hmap ?_
                rw [toI_23] at hi
                rw [hb]
                rcases Nat.lt_or_ge j 3 with hj | hj
                · match j, hj, e5, e6, hi with
                  | 0, _, e5, e6, hi =>
                    split at hi <;> first | (exfalso; omega) | (cases hi; done) | skip
                    cases hi
                    right; right
                    refine ⟨e5.symm, hd, ?_⟩
                    rcases e6 with q | q
                    · exact absurd q (by decide : ¬ (0 : Nat) = 2)
                    · match as, q with
                      | .ref a :: tl, q =>
                        have hka : (lmK t a).1 = r'.1.2.2.1 := by rw [← hk2]; exact Nat.eq_of_beq_eq_true q
                        have hcl2 : 1 ≤ r'.1.2.2.1 ∧ r'.1.2.2.1 ≤ 13 := by
                          rcases w1 with (q1 | q1) | q1
                          · exfalso; have e5' : 0 = b / 10000 := e5; rw [hbe, q1] at e5'; dsimp only [cond_true] at e5'; omega
                          · exfalso; have e5' : 0 = b / 10000 := e5; rw [hbe, q1] at e5'; cases hq2 : r'.1.2.2.2.1 <;> rw [hq2] at e5' <;> dsimp only [cond_true, cond_false] at e5' <;> omega
                          · exact ⟨Nat.le_of_ble_eq_true q1.1, Nat.le_of_ble_eq_true q1.2⟩
                        obtain ⟨cell, c1, c2, c3⟩ := recv_cell hA hK hR hka hcl2.1 hcl2.2
                        exact ⟨gD G a, tl.map (lV G), cell, rfl, by rw [hT]; exact c1, c2, c3⟩
                  | 1, _, e5, e6, hi =>
                    split at hi <;> first | (exfalso; omega) | (cases hi; done) | skip
                    cases hi
                    right; left
                    refine ⟨e5.symm, hd, ?_⟩
                    rcases e6 with q | q
                    · exact absurd q (by decide : ¬ (1 : Nat) = 2)
                    · match as, q with
                      | .ref a :: tl, q => exact ⟨gD G a, tl.map (lV G), rfl⟩
                  | 2, _, e5, e6, hi =>
                    split at hi <;> first | (exfalso; omega) | (cases hi; done) | skip
                    cases hi
                    left
                    exact ⟨e5.symm, hd⟩
                · exfalso
                  have : b / 10000 ≤ 2 := by
                    rw [hbe]; cases r'.1.2.2.2.1 <;> cases r'.1.2.2.2.2 <;> dsimp only [cond_true, cond_false] <;> omega
                  have e5' : j = b / 10000 := e5
                  omega
              obtain ⟨mk, vm₁, methY, cY, hW1, X1, n1, n2, n3, n4, hgo⟩ := hlinked
              have hlen3 : len = 3 := by
                rw [toI_23] at hi
                split at hi <;> first | rfl | cases hi
              subst hlen3
              have hts1 : ∀ w ∈ lw_tb2, ∀ a' : Array Value, w.before a' (T.setVm vm₁) = true := fun w hw a' => tb2_at (U := T.setVm vm₁) X1.warmed hts w hw
              have hcode : codeW r' ∈ lw_tb2 := tb2 (hws' _ (by simp [mWs])) (stay_code r')
              have hini' : iniW r' ∈ lw_tb2 := tb2 (hws' _ (by simp [mWs])) (stay_ini r')
              have hcat := cat_le G sa3
              have hRN := hR.2.1
              have w4' : r'.2.2.1 ≤ 40 := Nat.le_of_ble_eq_true w4
              have hlo : 24 + (cY.maxLocals + 11) + (headSpec (mWd r') (lRoom d t)).room.locals ≤ R.locals := by
                have e9 : (headSpec (mWd r') (lRoom d t)).room.locals = 100 * d + 300 := rfl
                rw [n4, e9]; exact ar_lo w4' hRl
              have hcallT := callT (l := l) (R := R) (p := p) (e := e) (below := below) (s := s) (sargs := args) (m := m) (meth := meth) (c := c) (U := T.setVm vm₁) (g := F0 m pc re (rest.map (lV G))) (mk := mk) (a := (as.map (lV G)).toArray) (len := 3) (W := 24) (y := mY r') (E := fun L k n => k = lmN tc - lmN t ∧ n = lmS tc - lmS t ∧ lmN t ≤ lmN tc ∧ lmS t ≤ lmS tc ∧ ∀ q ∈ L, (gH G).size ≤ q.base)
                hCt (fun a first o' tt hQ => by
                  obtain ⟨q1, q2, q3, q4, q5, L, q6, q7⟩ := hQ
                  exact ⟨L, _, _, ⟨rfl, rfl, q4, q5, q7⟩, q6⟩) X1 rfl (by show re.size = _; rw [hml]; exact hL.1.1) (by rw [hb]; exact hd) (by show 2 * 0 + ((rest.map (lV G)).map fun v => v.category).sum ≤ 24; omega) n1 n2 n3 (by show d + 8 + 1 ≤ _; omega) hlo
                (atoms_intro fun w hw => by
                  rcases List.mem_cons.mp hw with q | q
                  · rw [q]; exact hts1 _ hcode _
                  · exact hts1 _ q _) (hts1 _ hini' _) (by show lmN t - lmN t0 + (lmCells - lmN t) ≤ _; omega) (by show lmS t - lmS t0 + (lmSlots - lmS t) ≤ _; omega)
                (by
                  rw [State.calling_eq X1.here.top]
                  exact ⟨rfl, by show Rep G t T.heap; rw [hT]; exact hR, hK.moved (U := (T.setVm vm₁).setFrames _) X1.warmed⟩)
              obtain ⟨oo, tt, L, k', n', ⟨rfl, rfl, g1, g2, g3⟩, ⟨q1, q2, q3, -⟩, hE, X2, hst⟩ := hcallT
              have hloc2 : ∀ q ∈ locs ++ L, (gH G).size ≤ q.base := fun q hq => by
                rcases List.mem_append.mp hq with z | z
                · exact hloc q z
                · exact g3 q z
              have X3 : Stand p l e R s m args below meth c (({ T.setVm vm₁ with heap := tt.heap, slotsUsed := tt.slotsUsed } : State).setVm tt.vm) (locs ++ L) (lmN tc - lmN t0) (lmS tc - lmS t0) := by
                have ec : lmN tc - lmN t0 = lmN t - lmN t0 + (lmN tc - lmN t) := by omega
                have es : lmS tc - lmS t0 = lmS t - lmS t0 + (lmS tc - lmS t) := by omega
                rw [ec, es]; exact X2
              clear X2
              have hU2h : (({ T.setVm vm₁ with heap := tt.heap, slotsUsed := tt.slotsUsed } : State).setVm tt.vm).heap = tt.heap := rfl
              generalize (({ T.setVm vm₁ with heap := tt.heap, slotsUsed := tt.slotsUsed } : State).setVm tt.vm) = U2 at X3 hst hU2h
              have hN2 : lmN t0 ≤ lmN tc := Nat.le_trans hN g1
              have hS2 : lmS t0 ≤ lmS tc := Nat.le_trans hS g2
              match oc, h, q1, q3 with
              | .inl v, h, q1, q3 =>
                rcases hst with ⟨v', hv', hs3⟩ | ⟨z, hz, -⟩
                · have hv2 : v' = v.map (lV G) := by
                    rw [hv'] at q1
                    cases v with
                    | none => cases q1; rfl
                    | some x => cases q1; rfl
                  have hgo2 : s_run (s_callB mTab N d) (mF r) n (pc + 3) ls (v.toList ++ rest) tc = some (o, t') := by
                    cases v with
                    | none => exact h
                    | some x => exact h
                  obtain ⟨tg, a1, a2⟩ := ih hgo2 q2 hL hloc2 hN2 hS2 U2 hU2h X3
                  refine ⟨tg, hgo _ (hs3.trans ?_), a2⟩
                  rw [hv2]
                  rw [List.map_append] at a1
                  cases v with
                  | none => exact a1
                  | some x => exact a1
                · exfalso; rw [hz] at q1; cases v <;> cases q1
              | .inr a, h, q1, q3 =>
                rcases hst with ⟨v', hv', -⟩ | ⟨z, hz, hs3⟩
                · exfalso; rw [hv'] at q1; cases q1
                · have hz2 : z = gD G a := by rw [hz] at q1; cases q1; rfl
                  subst hz2
                  obtain ⟨x1, x2, x3⟩ := q3 a rfl
                  obtain ⟨cell, y1, y2, y3⟩ := q2.exc x1 rfl x2 x3
                  obtain ⟨vm2, X4, h1, h2⟩ := thrown_at (g := F0 m pc re (rest.map (lV G))) X3 hown hK hlocks hh rfl rfl rfl (a := gD G a) (by rw [hU2h]; exact y1) y2 y3 x2 x3
                  have h : (match s_find pc (lmK tc a).1 r.2.2.2.2.1 with | some h => s_run (s_callB mTab N d) (mF r) n h ls [.ref a] tc | none => some (.inr a, tc)) = some (o, t') := h
                  cases hf : s_find pc (lmK tc a).1 r.2.2.2.2.1 with
                  | some hp =>
                    rw [hf] at h
                    obtain ⟨tg, a1, a2⟩ := ih h q2 hL hloc2 hN2 hS2 (U2.setVm vm2) hU2h X4
                    exact ⟨tg, hgo _ (hs3.trans (h1 hp hf _ a1)), a2⟩
                  | none =>
                    rw [hf] at h
                    cases h
                    refine ⟨_, hgo _ (hs3.trans (h2 hf)), RQ_threw (T := U2.setVm vm2) q2 hloc2 hU2h X4, hN2, hS2, fun x hx' => by cases hx'; exact ⟨x1, x2, x3⟩⟩
end SR
theorem ctr_all {l : Launch} {G : LG} (hfl : ∀ e, l.admits e → e.platform.stackTraces = false) (hA : Ad G) (N : Nat) : ∀ d, CtrD l G N d
  | 0 => fun M as t o t' h _ _ _ _ => by cases h
  | d + 1 => fun M as t o t' h hM r hr h21 => by
    have hC := ctr_all hfl hA N d
    have hrw := mRow_okRw hr
    simp only [okRw, Bool.and_eq_true, Bool.or_eq_true, decide_eq_true_eq] at hrw
    obtain ⟨⟨⟨⟨w1, w2⟩, w3⟩, w4⟩, w5⟩ := hrw
    have hplain : plainName (mY r).cls = true := by
      rcases w3 with q | q
      · exact q
      · exact absurd (Nat.eq_of_beq_eq_true q) h21
    rw [s_callB] at h
    have hT : mTab M = some (r.2.2.1, mF r) := by unfold mTab; rw [hr]; rfl
    rw [hT] at h
    dsimp only at h
    cases hent : s_enter r.2.2.1 as with
    | none => rw [hent] at h; cases h
    | some ls =>
      rw [hent] at h
      have hspec : ∀ args (s : State), (headSpec (mWd r) (lRoom (d + 1) t)).pre.before args s = true → ∀ w ∈ mWd r, w.before args s = true := fun args s hp => atoms_spec (ws := mWd r) hp
      refine MetFree.of_bodyS (code := r.2.1) (maxLocals := r.2.2.1) (ret := r.2.2.2.1) hplain ?_ ?_
      · intro args s m hp hn
        obtain ⟨mk, meth, c, c1, c2, c3, c4, c5, c6, c7, c8, -⟩ := codeW_spec (hspec args s hp _ List.mem_cons_self)
        cases hn.symm.trans c1
        exact ⟨meth, c, c2, c3, c4, c5, c7, c8⟩
      · intro p e s m args below meth c s₁ B hml hP _
        obtain ⟨hargs, hR, hK⟩ := hP
        have hw := hspec args s B.pre
        have hts : ∀ w ∈ lw_tb2, w.before args s = true := fun w hw' => hw w (List.mem_cons_of_mem _ hw')
        obtain ⟨mk, meth', c', c1, c2, c3, c4, c5, c6, c7, c8, -⟩ := codeW_spec (hw _ List.mem_cons_self)
        cases B.named.symm.trans c1
        cases B.method.symm.trans c2
        have X0 : Stand p l e (lRoom (d + 1) t) s m args below meth c s₁ [] 0 0 := Stand.of_body B
        cases X0.code.symm.trans c3
        have hown : s.vm.findClass (cN (mF r).1) = some m.cls := findClass_of_methodNamed B.named
        have hFx : Fx p e (lRoom (d + 1) t) s m args meth c G (mF r) r.2.1 r.2.2.1 t := by
          refine ⟨B.exec, B.bytes, hml, hown, hts, hK, hA, hR.2.2.2.2.1, hfl e B.admits, B.notSynchronized, fun hi => ?_, rfl, ?_, ?_, ?_, ?_⟩
          · have hname := (name_of_methodNamed B.named B.method).1
            rw [hname]
            have : r.1.2.2.2.2 = true := hi
            rw [w5] at this
            exact of_decide_eq_true this
          · show lmCells ≤ lmCells - lmN t + lmN t; omega
          · show lmSlots ≤ lmSlots - lmS t + lmS t; omega
          · show 8 ≤ d + 1 + 8; omega
          · show 300 ≤ 100 * (d + 1) + 300; exact Nat.le_add_left _ _
        have hh : hRs r.1.2.2.1 s args c.exceptionTable.toList r.2.2.2.2.1 := hRs_of hts w2 c6
        have hW := sim_run (p := p) (below := below) hC hr hFx c7 hh (Nat.le_refl _) (Nat.le_refl _) N (o := o) (t' := t') (pc := 0) (ls := ls) (st := []) (t := t) (H := s.heap) (locs := []) h hR (enter_Lv G hent) (fun q hq => by cases hq) (Nat.le_refl _) (Nat.le_refl _)
        have hh0 : s₁.heap = s.heap := by rw [B.state]; rfl
        rw [Nat.sub_self, Nat.sub_self] at hW
        obtain ⟨T, a1, ⟨b1, b2, b3, L, b4, b5⟩, b6, b7, b8⟩ := hW s₁ hh0 X0
        refine ⟨T, oV G o, ?_, b1, b2, rfl, b3, b8, b6, b7, L, b4, b5⟩
        rw [hargs]
        exact a1
