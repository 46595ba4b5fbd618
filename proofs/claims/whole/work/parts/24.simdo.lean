/-! THE SIMULATION: one step that goes on -/
section SD
variable {p : Program} {l : Launch} {e : Env} {R : Room} {s : State} {m : MethodId} {args : Array Value} {below : List Frame} {meth : Method} {c : Code} {H : Heap} {locs : List Loc} {cells slots : Nat} {Q : State → Prop}
variable {cc : ByteArray} {pc len nL : Nat} {re : Array Slot} {G : LG} {ls st : List Value} {t t0 : Lm} {i : Instr} {own : Nat}
theorem W.csq {g : JFrame} {x y x' y' : Nat} (h1 : x = x') (h2 : y = y') (k : W p l e R s m args below meth c H locs x' y' Q g) : W p l e R s m args below meth c H locs x y Q g := by rw [h1, h2]; exact k
/-- what is fixed while a method runs -/
def Fx (p : Program) (e : Env) (R : Room) (s : State) (m : MethodId) (args : Array Value) (meth : Method) (c : Code) (G : LG) (F : Lf) (cc : ByteArray) (nL : Nat) (t0 : Lm) : Prop :=
  p.tables.exec = Jvm.exec ∧ c.code = cc ∧ c.maxLocals = nL ∧ s.vm.findClass (cN F.1) = some m.cls ∧ (∀ w ∈ lw_tb2, w.before args s = true) ∧ Kn G s ∧ Ad G ∧ (∀ q, q < (gH G).size → s.heap[q]? = (gH G)[q]?) ∧ e.platform.stackTraces = false ∧ meth.locks = false ∧ (F.2.1 = true → meth.name = "<init>") ∧ F.2.2.2.2.1 = lk F.1 ∧ lmCells ≤ R.cells + lmN t0 ∧ lmSlots ≤ R.slots + lmS t0 ∧ 8 ≤ R.frames ∧ 300 ≤ R.locals
theorem lV_ref (G : LG) (a : Nat) : lV G (.ref a) = .ref (gD G a) := rfl
theorem lV_int (G : LG) (x : Int32) : lV G (.int x) = .int x := rfl
theorem lV_long (G : LG) (x : Int64) : lV G (.long x) = .long x := rfl
set_option maxHeartbeats 4000000 in
theorem sim_do {F : Lf} (hFx : Fx p e R s m args meth c G F cc nL t0) {q : Li} {pc' : Nat} {ls' st' : List Value} {t' : Lm} (hi : toI pc len q = some i) (hd : decode cc pc = .ok (i, len)) (hs : s_do F q len pc ls st t = some (.inl (pc', ls', st', t')))
    (hR : Rep G t H) (hL : Lv G ls nL re) (hloc : ∀ q ∈ locs, (gH G).size ≤ q.base) (hN : lmN t0 ≤ lmN t) (hS : lmS t0 ≤ lmS t)
    (kk : ∀ (re' : Array Slot) (H' : Heap) (locs' : List Loc), Rep G t' H' → Lv G ls' nL re' → (∀ q ∈ locs', (gH G).size ≤ q.base) → lmN t ≤ lmN t' → lmS t ≤ lmS t' → W p l e R s m args below meth c H' locs' (lmN t' - lmN t0) (lmS t' - lmS t0) Q (F0 m pc' re' (st'.map (lV G)))) :
    W p l e R s m args below meth c H locs (lmN t - lmN t0) (lmS t - lmS t0) Q (F0 m pc re (st.map (lV G))) := by
  obtain ⟨hx, hb, hml, hown, hts, hK, hA, hs0, htr, hlocks, hini, hlk, hRc, hRs, hRf, hRl⟩ := hFx
  have hcell := hR.2.1
  have hslot := hR.2.2.1
  have hLs : re.size = nL := hL.1.1
  obtain ⟨g, j, k, z, ts⟩ := q
  match g, hs, hi with
  | 0, hs, hi =>
    obtain ⟨v, hv, hs⟩ := Option.bind_eq_some_iff.mp (show (s_cst j k z).bind _ = _ from hs)
    cases hs
    exact sm_cst hx hb hi hd hv (kk re H locs hR hL hloc (Nat.le_refl _) (Nat.le_refl _))
  | 1, hs, hi =>
    obtain ⟨v, hv, hs⟩ := Option.bind_eq_some_iff.mp (show (s_load j k ls).bind _ = _ from hs)
    cases hs
    exact sm_load hx hb hL hi hd hv (kk re H locs hR hL hloc (Nat.le_refl _) (Nat.le_refl _))
  | 2, hs, hi =>
    match st, hs with
    | v :: r, hs =>
      obtain ⟨v', hv, hs⟩ := Option.bind_eq_some_iff.mp (show (s_store j k ls v).bind _ = _ from hs)
      cases hs
      exact sm_store hx hb hL hi hd hv (fun re' h => kk re' H locs hR h hloc (Nat.le_refl _) (Nat.le_refl _))
    | [], hs => cases hs
  | 3, hs, hi =>
    have hs : (match ls[k]? with | some (.int x) => xGo (pc + len) (lSet ls k (.int (x + Int32.ofInt z))) st t | _ => none) = _ := hs
    split at hs
    · rename_i x hk
      cases hs
      exact sm_iinc hx hb hL hi hd hk (fun re' h => kk re' H locs hR h hloc (Nat.le_refl _) (Nat.le_refl _))
    · cases hs
  | 4, hs, hi =>
    match st, hs with
    | .int y :: .int x :: r, hs =>
      obtain ⟨v, hv, hs⟩ := Option.bind_eq_some_iff.mp (show (s_ibin j x y).bind _ = _ from hs)
      cases hs
      exact sm_ibin hx hb hi hd hv (kk re H locs hR hL hloc (Nat.le_refl _) (Nat.le_refl _))
  | 5, hs, hi =>
    match st, hs with
    | .long y :: .long x :: r, hs =>
      obtain ⟨v, hv, hs⟩ := Option.bind_eq_some_iff.mp (show (s_lbin j x y).bind _ = _ from hs)
      cases hs
      exact sm_lbin hx hb hi hd hv (kk re H locs hR hL hloc (Nat.le_refl _) (Nat.le_refl _))
  | 6, hs, hi =>
    match st, hs with
    | v :: r, hs =>
      obtain ⟨v', hv, hs⟩ := Option.bind_eq_some_iff.mp (show (s_un j v).bind _ = _ from hs)
      cases hs
      exact sm_un hx hb hi hd hv (kk re H locs hR hL hloc (Nat.le_refl _) (Nat.le_refl _))
    | [], hs => cases hs
  | 7, hs, hi =>
    obtain ⟨v, hv, hs⟩ := Option.bind_eq_some_iff.mp (show (s_stk j st).bind _ = _ from hs)
    cases hs
    exact sm_stk hx hb hi hd hv (kk re H locs hR hL hloc (Nat.le_refl _) (Nat.le_refl _))
  | 8, hs, hi =>
    match st, hs with
    | .int x :: r, hs =>
      cases hs
      exact sm_if hx hb hi hd (kk re H locs hR hL hloc (Nat.le_refl _) (Nat.le_refl _))
  | 9, hs, hi =>
    match st, hs with
    | .int y :: .int x :: r, hs =>
      cases hs
      exact sm_icmp hx hb hi hd (kk re H locs hR hL hloc (Nat.le_refl _) (Nat.le_refl _))
  | 10, hs, hi =>
    cases hs
    exact sm_goto hx hb hi hd (kk re H locs hR hL hloc (Nat.le_refl _) (Nat.le_refl _))
  | 11, hs, hi =>
    match j, st, hs with
    | 0, .null :: r, hs =>
      cases hs
      exact sm_null (v := .null) hx hb hi hd (Or.inl ⟨rfl, Or.inl ⟨rfl, rfl⟩⟩) (kk re H locs hR hL hloc (Nat.le_refl _) (Nat.le_refl _))
    | 0, .ref a :: r, hs =>
      cases hs
      exact sm_null (v := .ref a) hx hb hi hd (Or.inl ⟨rfl, Or.inr ⟨⟨_, rfl⟩, rfl⟩⟩) (kk re H locs hR hL hloc (Nat.le_refl _) (Nat.le_refl _))
    | 1, .null :: r, hs =>
      cases hs
      exact sm_null (v := .null) hx hb hi hd (Or.inr ⟨rfl, Or.inl ⟨rfl, rfl⟩⟩) (kk re H locs hR hL hloc (Nat.le_refl _) (Nat.le_refl _))
    | 1, .ref a :: r, hs =>
      cases hs
      exact sm_null (v := .ref a) hx hb hi hd (Or.inr ⟨rfl, Or.inr ⟨⟨_, rfl⟩, rfl⟩⟩) (kk re H locs hR hL hloc (Nat.le_refl _) (Nat.le_refl _))
  | 12, hs, hi =>
    match st, hs with
    | .int x :: r, hs =>
      cases hs
      exact sm_sw hx hb hi hd (kk re H locs hR hL hloc (Nat.le_refl _) (Nat.le_refl _))
  | 13, hs, hi =>
    obtain ⟨q, hq, hs⟩ := Option.bind_eq_some_iff.mp (show (F.2.2.2.2.1 k).bind _ = _ from hs)
    rw [hlk] at hq
    dsimp only at hs
    cases hz : s_zt z q.1 with
    | false => rw [hz] at hs; cases hs
    | true =>
      rw [hz, cond_true] at hs
      obtain ⟨v, hv, hs⟩ := Option.bind_eq_some_iff.mp hs
      cases hs
      exact sm_const hx hb hown hts hK hR hi hd hq hz hv (kk re H locs hR hL hloc (Nat.le_refl _) (Nat.le_refl _))
  | 14, hs, hi =>
    match st, hs with
    | .ref a :: r, hs =>
      obtain ⟨q, hq, hs⟩ := Option.bind_eq_some_iff.mp (show (F.2.2.2.2.1 k).bind _ = _ from hs)
      rw [hlk] at hq
      obtain ⟨v, hv, hs⟩ := Option.bind_eq_some_iff.mp hs
      cases hs
      exact sm_getf hA hx hb hown hts hK hR hi hd hq hv (kk re H locs hR hL hloc (Nat.le_refl _) (Nat.le_refl _))
  | 15, hs, hi =>
    match st, hs with
    | v :: .ref a :: r, hs =>
      obtain ⟨q, hq, hs⟩ := Option.bind_eq_some_iff.mp (show (F.2.2.2.2.1 k).bind _ = _ from hs)
      rw [hlk] at hq
      obtain ⟨t2, hv, hs⟩ := Option.bind_eq_some_iff.mp hs
      cases hs
      exact sm_putf hA hx hb hown hts hK hR hini hi hd hq hv hloc (fun H' L' h1 h2 e1 e2 => (kk re H' L' h1 hL h2 (Nat.le_of_eq e1.symm) (Nat.le_of_eq e2.symm)).csq (by rw [e1]) (by rw [e2]))
  | 16, hs, hi =>
    match st, hs with
    | .int x :: .ref a :: r, hs =>
      obtain ⟨v, hv, hs⟩ := Option.bind_eq_some_iff.mp (show (s_aload j t a x).bind _ = _ from hs)
      cases hs
      exact sm_aload hA hx hb hK hR hi hd hv (kk re H locs hR hL hloc (Nat.le_refl _) (Nat.le_refl _))
  | 17, hs, hi =>
    match st, hs with
    | v :: .int x :: .ref a :: r, hs =>
      obtain ⟨t2, hv, hs⟩ := Option.bind_eq_some_iff.mp (show (s_astore j t a x v).bind _ = _ from hs)
      cases hs
      exact sm_astore hA hx hb hK hR hi hd hv hloc (fun H' L' h1 h2 e1 e2 => (kk re H' L' h1 hL h2 (Nat.le_of_eq e1.symm) (Nat.le_of_eq e2.symm)).csq (by rw [e1]) (by rw [e2]))
  | 18, hs, hi =>
    match st, hs with
    | .ref a :: r, hs =>
      have hs : (bif Nat.ble 50 (lmK t a).1 && Nat.blt (lmK t a).1 56 then xGo (pc + len) ls (.int (Int32.ofNat (lmK t a).2) :: r) t else none) = _ := hs
      cases hc : (Nat.ble 50 (lmK t a).1 && Nat.blt (lmK t a).1 56) with
      | false => rw [hc] at hs; cases hs
      | true =>
        rw [hc] at hs
        cases hs
        rw [Bool.and_eq_true] at hc
        exact sm_alen hA hx hb hK hR hi hd (Nat.le_of_ble_eq_true hc.1) (Nat.blt_eq.mp hc.2) (kk re H locs hR hL hloc (Nat.le_refl _) (Nat.le_refl _))
  | 19, hs, hi =>
    match st, hs with
    | .int n :: r, hs =>
      have hs : (bif decide (¬ n < 0) && Nat.ble n.toNatClampNeg 65536 && lmFits t 1 n.toNatClampNeg then (s_newa k).bind fun k => xGo (pc + len) ls (.ref (lmN t) :: r) (lmNew t k n.toNatClampNeg n.toNatClampNeg) else none) = _ := hs
      cases hc : (decide (¬ n < 0) && Nat.ble n.toNatClampNeg 65536 && lmFits t 1 n.toNatClampNeg) with
      | false => rw [hc] at hs; cases hs
      | true =>
        rw [hc, cond_true] at hs
        obtain ⟨kd, hv, hs⟩ := Option.bind_eq_some_iff.mp hs
        cases hs
        simp only [Bool.and_eq_true, lmFits, decide_eq_true_eq] at hc
        obtain ⟨⟨c1, c2⟩, c3, c4⟩ := hc
        have c3 := Nat.le_of_ble_eq_true c3
        have c4 := Nat.le_of_ble_eq_true c4
        refine sm_newa hA hx hb hts hK hR hi hd hv c1 (Nat.le_of_ble_eq_true c2) c3 c4 (by omega) (by omega) (fun H' h1 => (kk re H' locs h1 hL hloc (Nat.le_succ _) (Nat.le_add_right _ _)).csq ?_ ?_)
        · show lmN t - lmN t0 + 1 = lmN t + 1 - lmN t0; omega
        · show lmS t - lmS t0 + n.toNatClampNeg = lmS t + n.toNatClampNeg - lmS t0; omega
  | 20, hs, hi =>
    obtain ⟨q, hq, hs⟩ := Option.bind_eq_some_iff.mp (show (F.2.2.2.2.1 k).bind _ = _ from hs)
    rw [hlk] at hq
    cases hc : (Nat.beq q.1 60 && lmFits t 1 q.2.2) with
    | false => rw [hc] at hs; cases hs
    | true =>
      rw [hc, cond_true] at hs
      cases hs
      simp only [Bool.and_eq_true, lmFits] at hc
      obtain ⟨c1, c3, c4⟩ := hc
      obtain ⟨q1, ci, b⟩ := q
      have c1 : q1 = 60 := Nat.eq_of_beq_eq_true c1
      subst c1
      have c3 := Nat.le_of_ble_eq_true c3
      have c4 : lmS t + b ≤ lmSlots := Nat.le_of_ble_eq_true c4
      refine sm_new hA hx hb hown hts hK hR hi hd hq c3 c4 (by omega) (by omega) (fun H' h1 => (kk re H' locs h1 hL hloc (Nat.le_succ _) (Nat.le_add_right _ _)).csq ?_ ?_)
      · show lmN t - lmN t0 + 1 = lmN t + 1 - lmN t0; omega
      · show lmS t - lmS t0 + b = lmS t + b - lmS t0; omega
  | 21, hs, hi =>
    match st, hs with
    | .int n :: r, hs =>
      obtain ⟨q, hq, hs⟩ := Option.bind_eq_some_iff.mp (show (F.2.2.2.2.1 k).bind _ = _ from hs)
      rw [hlk] at hq
      cases hc : (Nat.beq q.1 60 && Nat.beq q.2.1 2 && decide (¬ n < 0) && Nat.ble n.toNatClampNeg 65536 && lmFits t 1 n.toNatClampNeg) with
      | false => rw [hc] at hs; cases hs
      | true =>
        rw [hc, cond_true] at hs
        cases hs
        simp only [Bool.and_eq_true, lmFits, decide_eq_true_eq] at hc
        obtain ⟨⟨⟨⟨c1, c2⟩, c5⟩, c6⟩, c3, c4⟩ := hc
        obtain ⟨q1, ci, b⟩ := q
        have d1 : q1 = 60 := Nat.eq_of_beq_eq_true c1
        have d2 : ci = 2 := Nat.eq_of_beq_eq_true c2
        subst d1; subst d2
        have c3 := Nat.le_of_ble_eq_true c3
        have c4 := Nat.le_of_ble_eq_true c4
        refine sm_anew hA hx hb hown hts hK hR hi hd hq c5 (Nat.le_of_ble_eq_true c6) c3 c4 (by omega) (by omega) (fun H' h1 => (kk re H' locs h1 hL hloc (Nat.le_succ _) (Nat.le_add_right _ _)).csq ?_ ?_)
        · show lmN t - lmN t0 + 1 = lmN t + 1 - lmN t0; omega
        · show lmS t - lmS t0 + n.toNatClampNeg = lmS t + n.toNatClampNeg - lmS t0; omega
  | 22, hs, hi =>
    match st, hs with
    | .int o :: .int n :: r, hs =>
      obtain ⟨q, hq, hs⟩ := Option.bind_eq_some_iff.mp (show (F.2.2.2.2.1 k).bind _ = _ from hs)
      rw [hlk] at hq
      cases hc : (Nat.beq q.1 62 && decide (¬ n < 0) && decide (¬ o < 0) && Nat.ble n.toNatClampNeg 65536 && Nat.ble o.toNatClampNeg 65536 && lmFits t (1 + n.toNatClampNeg) (n.toNatClampNeg + n.toNatClampNeg * o.toNatClampNeg)) with
      | false => rw [hc] at hs; cases hs
      | true =>
        rw [hc, cond_true] at hs
        cases hs
        simp only [Bool.and_eq_true, lmFits, decide_eq_true_eq] at hc
        obtain ⟨⟨⟨⟨⟨c1, c2⟩, c5⟩, c6⟩, c7⟩, c3, c4⟩ := hc
        obtain ⟨q1, ci, b⟩ := q
        have c1 : q1 = 62 := Nat.eq_of_beq_eq_true c1
        subst c1
        have c3 := Nat.le_of_ble_eq_true c3
        have c4 := Nat.le_of_ble_eq_true c4
        refine sm_multi hA hx hb hown hts hK hR hi hd hq c2 c5 (Nat.le_of_ble_eq_true c6) (Nat.le_of_ble_eq_true c7) c3 c4 (by omega) (by omega) hloc (fun H' L' h1 h2 => (kk re H' L' h1 hL h2 ?_ ?_).csq ?_ ?_)
        · show lmN t ≤ lmN t + 1 + n.toNatClampNeg; omega
        · show lmS t ≤ lmS t + (n.toNatClampNeg + n.toNatClampNeg * o.toNatClampNeg); omega
        · show lmN t - lmN t0 + (1 + n.toNatClampNeg) = lmN t + 1 + n.toNatClampNeg - lmN t0; omega
        · show lmS t - lmS t0 + _ = lmS t + (n.toNatClampNeg + n.toNatClampNeg * o.toNatClampNeg) - lmS t0; omega
  | 23, hs, hi =>
    obtain ⟨q, hq, hs⟩ := Option.bind_eq_some_iff.mp (show (F.2.2.2.2.1 k).bind _ = _ from hs)
    rw [hlk] at hq
    obtain ⟨q1, q2, q3⟩ := q
    rw [toI_23] at hi
    match q1, hs, hq with
    | 50, hs, hq =>
      obtain ⟨v, hv, hs⟩ := Option.bind_eq_some_iff.mp (show (s_args _ st).bind _ = _ from hs)
      cases hc : (Nat.beq j (q3 / 10000) && (Nat.beq j 2 || s_recv t (q3 % 100) v.1)) with
      | false => rw [hc] at hs; cases hs
      | true => rw [hc] at hs; cases hs
    | 51, hs, hq =>
      match st, hs with
      | .ref a :: r, hs =>
        have hs : (bif Nat.beq j 1 && Nat.ble r.length 12 then xGo (pc + 3) ls r t else none) = _ := hs
        cases hc : (Nat.beq j 1 && Nat.ble r.length 12) with
        | false => rw [hc] at hs; cases hs
        | true =>
          rw [hc] at hs
          cases hs
          rw [Bool.and_eq_true] at hc
          have hj : j = 1 := Nat.eq_of_beq_eq_true hc.1
          subst hj
          split at hi <;> first | (exfalso; omega) | (cases hi; done) | skip
          cases hi
          exact sm_objInit hx hb hml hown hts hLs hd hq (Nat.le_of_ble_eq_true hc.2) (by omega) (by omega) (kk re H locs hR hL hloc (Nat.le_refl _) (Nat.le_refl _))
    | 52, hs, hq =>
      match st, hs with
      | .ref mg :: .ref a :: r, hs =>
        have hs : (bif Nat.beq j 1 && Nat.ble r.length 12 && Nat.beq (lmK t a).1 q2 && Nat.beq (lmK t a).2 0 && Nat.blt a (lmN t) && Nat.ble lmB mg then xGo (pc + 3) ls r (up1 (lmK t) a (q2, 1), lmI t, lmL t, lmR t, lmN t, lmS t) else none) = _ := hs
        cases hc : (Nat.beq j 1 && Nat.ble r.length 12 && Nat.beq (lmK t a).1 q2 && Nat.beq (lmK t a).2 0 && Nat.blt a (lmN t) && Nat.ble lmB mg) with
        | false => rw [hc] at hs; cases hs
        | true =>
          rw [hc] at hs
          cases hs
          simp only [Bool.and_eq_true] at hc
          obtain ⟨⟨⟨⟨⟨c1, c2⟩, c3⟩, c4⟩, c5⟩, c6⟩ := hc
          have hj : j = 1 := Nat.eq_of_beq_eq_true c1
          subst hj
          split at hi <;> first | (exfalso; omega) | (cases hi; done) | skip
          cases hi
          exact sm_exc hA hx hb hml hown hts hK hR hs0 htr hLs hd hq (Nat.blt_eq.mp c5) (Prod.ext (Nat.eq_of_beq_eq_true c3) (Nat.eq_of_beq_eq_true c4)) (Nat.le_of_ble_eq_true c2) (by omega) (by omega) hloc (fun H' L' h1 h2 => kk re H' L' h1 hL h2 (Nat.le_refl _) (Nat.le_refl _))
    | 53, hs, hq =>
      match st, hs with
      | .int n :: .int i2 :: .ref b :: .int i1 :: .ref a :: r, hs =>
        have hs : (bif Nat.beq j 2 && Nat.ble r.length 12 then (s_copy t a i1 b i2 n).bind fun t' => xGo (pc + 3) ls r t' else none) = _ := hs
        cases hc : (Nat.beq j 2 && Nat.ble r.length 12) with
        | false => rw [hc] at hs; cases hs
        | true =>
          rw [hc, cond_true] at hs
          obtain ⟨t2, hv, hs⟩ := Option.bind_eq_some_iff.mp hs
          cases hs
          rw [Bool.and_eq_true] at hc
          have hj : j = 2 := Nat.eq_of_beq_eq_true hc.1
          subst hj
          split at hi <;> first | (exfalso; omega) | (cases hi; done) | skip
          cases hi
          exact sm_copy hA hx hb hml hown hts hK hR hLs hd hq hv (Nat.le_of_ble_eq_true hc.2) (by omega) (Nat.le_trans (by decide +kernel : 24 + (nativeFrameWords "java/lang/System" "arraycopy" 5 + 11) ≤ 300) hRl) hloc (fun H' L' h1 h2 e1 e2 => (kk re H' L' h1 hL h2 (Nat.le_of_eq e1.symm) (Nat.le_of_eq e2.symm)).csq (by rw [e1]) (by rw [e2]))
    | 54, hs, hq =>
      match st, hs with
      | .ref a :: r, hs =>
        have hs : (bif Nat.beq j 0 && Nat.ble r.length 12 && Nat.beq (lmK t a).1 50 && Nat.blt a (lmN t) && lmFits t 1 (lmK t a).2 then xGo (pc + 3) ls (.ref (lmN t) :: r) (s_clone t a) else none) = _ := hs
        cases hc : (Nat.beq j 0 && Nat.ble r.length 12 && Nat.beq (lmK t a).1 50 && Nat.blt a (lmN t) && lmFits t 1 (lmK t a).2) with
        | false => rw [hc] at hs; cases hs
        | true =>
          rw [hc] at hs
          cases hs
          simp only [Bool.and_eq_true, lmFits] at hc
          obtain ⟨⟨⟨⟨c1, c2⟩, c3⟩, c4⟩, c5, c6⟩ := hc
          have hj : j = 0 := Nat.eq_of_beq_eq_true c1
          subst hj
          have c5 := Nat.le_of_ble_eq_true c5
          have c6 := Nat.le_of_ble_eq_true c6
          split at hi <;> first | (exfalso; omega) | (cases hi; done) | skip
          cases hi
          refine sm_clone hA hx hb hml hown hts hK hR hLs hd hq (Nat.blt_eq.mp c4) (Nat.eq_of_beq_eq_true c3) (Nat.le_of_ble_eq_true c2) (by omega) (by omega) c5 c6 (by omega) (by omega) (fun H' h1 => (kk re H' locs h1 hL hloc (Nat.le_succ _) (Nat.le_add_right _ _)).csq ?_ ?_)
          · show lmN t - lmN t0 + 1 = lmN t + 1 - lmN t0; omega
          · show lmS t - lmS t0 + (lmK t a).2 = lmS t + (lmK t a).2 - lmS t0; omega
    | 55, hs, hq =>
      match st, hs with
      | .int n :: .int x :: r, hs =>
        have hs : (bif Nat.beq j 2 && Nat.ble r.length 12 && decide (¬ x < 0) && decide (x < n) then xGo (pc + 3) ls r t else none) = _ := hs
        cases hc : (Nat.beq j 2 && Nat.ble r.length 12 && decide (¬ x < 0) && decide (x < n)) with
        | false => rw [hc] at hs; cases hs
        | true =>
          rw [hc] at hs
          cases hs
          simp only [Bool.and_eq_true, decide_eq_true_eq] at hc
          obtain ⟨⟨⟨c1, c2⟩, c3⟩, c4⟩ := hc
          have hj : j = 2 := Nat.eq_of_beq_eq_true c1
          subst hj
          split at hi <;> first | (exfalso; omega) | (cases hi; done) | skip
          cases hi
          exact sm_chk hx hb hml hown hts hK hR hLs hd hq c3 c4 (Nat.le_of_ble_eq_true c2) (by omega) (by omega) (by omega) (by omega) (kk re H locs hR hL hloc (Nat.le_refl _) (Nat.le_refl _))
    | 56, hs, hq =>
      match st, hs with
      | .int y :: .int x :: r, hs =>
        have hs : (bif Nat.beq j 2 && Nat.ble r.length 12 then xGo (pc + 3) ls (.int (if x < y then y else x) :: r) t else none) = _ := hs
        cases hc : (Nat.beq j 2 && Nat.ble r.length 12) with
        | false => rw [hc] at hs; cases hs
        | true =>
          rw [hc] at hs
          cases hs
          rw [Bool.and_eq_true] at hc
          have hj : j = 2 := Nat.eq_of_beq_eq_true hc.1
          subst hj
          split at hi <;> first | (exfalso; omega) | (cases hi; done) | skip
          cases hi
          exact sm_max hx hb hml hown hts hLs hd hq (Nat.le_of_ble_eq_true hc.2) (by omega) (by omega) (by omega) (by omega) (kk re H locs hR hL hloc (Nat.le_refl _) (Nat.le_refl _))
    | 57, hs, hq =>
      match st, hs with
      | .int y :: .int x :: r, hs =>
        have hs : (bif Nat.beq j 2 && Nat.ble r.length 12 then xGo (pc + 3) ls (.int (if y < x then y else x) :: r) t else none) = _ := hs
        cases hc : (Nat.beq j 2 && Nat.ble r.length 12) with
        | false => rw [hc] at hs; cases hs
        | true =>
          rw [hc] at hs
          cases hs
          rw [Bool.and_eq_true] at hc
          have hj : j = 2 := Nat.eq_of_beq_eq_true hc.1
          subst hj
          split at hi <;> first | (exfalso; omega) | (cases hi; done) | skip
          cases hi
          exact sm_min hx hb hml hown hts hLs hd hq (Nat.le_of_ble_eq_true hc.2) (by omega) (by omega) (by omega) (by omega) (kk re H locs hR hL hloc (Nat.le_refl _) (Nat.le_refl _))
    | 58, hs, hq =>
      match st, hs with
      | .long y :: .long x :: r, hs =>
        have hs : (bif Nat.beq j 2 && Nat.ble r.length 12 then xGo (pc + 3) ls (.long (if y < x then x else y) :: r) t else none) = _ := hs
        cases hc : (Nat.beq j 2 && Nat.ble r.length 12) with
        | false => rw [hc] at hs; cases hs
        | true =>
          rw [hc] at hs
          cases hs
          rw [Bool.and_eq_true] at hc
          have hj : j = 2 := Nat.eq_of_beq_eq_true hc.1
          subst hj
          split at hi <;> first | (exfalso; omega) | (cases hi; done) | skip
          cases hi
          exact sm_maxL hx hb hml hown hts hLs hd hq (Nat.le_of_ble_eq_true hc.2) (by omega) (by omega) (by omega) (by omega) (kk re H locs hR hL hloc (Nat.le_refl _) (Nat.le_refl _))
    | n + 59, hs, hq => cases hs
  | 24, hs, hi =>
    have hs : s_ret F.2.2.1 j st = _ := hs
    unfold s_ret at hs
    split at hs
    · split at hs <;> cases hs
    · cases hs
    · cases hs
    · cases hs
    · cases hs
  | 25, hs, hi =>
    match st, hs with
    | .ref a :: r, hs =>
      have hs : (bif Nat.blt a (lmN t) && Nat.ble 14 (lmK t a).1 && Nat.blt (lmK t a).1 19 then (some (.inr (.inr (.inr a))) : Option Lx) else none) = some (Sum.inl (pc', ls', st', t')) := hs
      cases hc : (Nat.blt a (lmN t) && Nat.ble 14 (lmK t a).1 && Nat.blt (lmK t a).1 19) with
      | false => rw [hc] at hs; cases hs
      | true => rw [hc] at hs; cases hs
  | 26, hs, hi =>
    match st, hs with
    | .ref a :: r, hs =>
      obtain ⟨q, hq, hs⟩ := Option.bind_eq_some_iff.mp (show (F.2.2.2.2.1 k).bind _ = _ from hs)
      rw [hlk] at hq
      cases hc : (Nat.beq q.1 63 && Nat.beq (lmK t a).1 50 && Nat.blt a (lmN t)) with
      | false => rw [hc] at hs; cases hs
      | true =>
        rw [hc, cond_true] at hs
        cases hs
        simp only [Bool.and_eq_true] at hc
        obtain ⟨⟨c1, c2⟩, c3⟩ := hc
        obtain ⟨q1, ci, b⟩ := q
        have c1 : q1 = 63 := Nat.eq_of_beq_eq_true c1
        subst c1
        exact sm_cast hA hx hb hown hts hK hR hi hd hq (Nat.blt_eq.mp c3) (Nat.eq_of_beq_eq_true c2) (kk re H locs hR hL hloc (Nat.le_refl _) (Nat.le_refl _))
  | g + 27, hs, hi => cases hs
end SD
