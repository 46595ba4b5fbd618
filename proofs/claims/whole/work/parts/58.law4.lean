/-! A TEXT OF THE LAW: its conditions -/
abbrev Sz : Type := (Nat → Int32) × Nat
def lw0 (I : Mem) (st : Sz) : Mem := up2 (upr I 45 st.1) 41 6 (nI st.2)
def lw (I : Mem) (st : Sz) (p : Nat) : Mem := rdM (lw0 I st) p
theorem lw0_o {I : Mem} {st : Sz} {a : Nat} (h1 : a ≠ 45) (h2 : a ≠ 41) : lw0 I st a = I a := by unfold lw0; rw [up2_row h2, upr_ne h1]
theorem lw0_rd {I : Mem} {st : Sz} {T : Nat} {tv : Nat → Nat} (h : RdI I T tv) : RdI (lw0 I st) T tv :=
  ⟨by rw [lw0_o (by decide) (by decide)]; exact h.1, h.2.1, fun j hj => by rw [lw0_o (by decide) (by decide)]; exact h.2.2.1 j hj, h.2.2.2⟩
theorem lw0_ss {K : Nat → Nat × Nat} {I : Mem} {R : Nat → Nat → Option Nat} {st : Sz} (h : SS K I R) : SS K (lw0 I st) R := SS_off h (fun a ha => lw0_o (by unfold lmB at ha; omega) (by unfold lmB at ha; omega))
theorem lw_6 {I : Mem} {st : Sz} {p : Nat} : lw I st p 41 6 = nI st.2 := by unfold lw; rw [rdM_o (by decide)]; exact up2_hit
theorem lw_up45 {I : Mem} {st : Sz} {p j : Nat} {v : Int32} : up2 (lw I st p) 45 j v = lw I (up1 st.1 j v, st.2) p := by
  unfold lw
  rw [rdM_up2 (by decide)]
  congr 1
  unfold lw0
  funext a i
  by_cases h : a = 45
  · subst h; rw [up2_same, up2_row (by decide), up2_row (by decide), upr_same, upr_same]; rfl
  · rw [up2_row h]
    by_cases h2 : a = 41
    · subst h2; rw [up2_same, up2_same, upr_ne h, upr_ne h]
    · rw [up2_row h2, up2_row h2, upr_ne h, upr_ne h]
theorem lw_up6 {I : Mem} {st : Sz} {p z : Nat} : up2 (lw I st p) 41 6 (nI z) = lw I (st.1, z) p := by
  unfold lw
  rw [rdM_up2 (by decide)]
  congr 1
  exact up2_up2
def putS (st : Sz) (v : Int32) : Sz := if st.2 < 400 then (up1 st.1 st.2 v, st.2 + 1) else st
theorem putS_le {st : Sz} {v : Int32} (h : st.2 ≤ 400) : (putS st v).2 ≤ 400 := by
  unfold putS; split
  · show st.2 + 1 ≤ 400; omega
  · exact h
abbrev Re : Type := Bool × Sz × Nat
def kNot : List Nat := [110, 111, 116]
def kAnd : List Nat := [97, 110, 100]
def kOr : List Nat := [111, 114]
def kIf : List Nat := [105, 102]
def parW : List (List Nat) := [[99, 101, 108, 108], [120], [121], [100, 101, 112, 116, 104], [119, 97, 116, 101, 114], [116, 117, 114, 118, 101, 115], [115, 117, 110]]
def facW : List (List Nat) := [[100, 114, 97, 105, 110, 101, 100], [114, 97, 105, 110], [108, 97, 105, 100]]
/-- one part of a sum -/
def parF (tv : Nat → Nat) (T : Nat) (st : Sz) (p : Nat) : Option (Sz × Nat) := if atDg tv T p then (match numR tv T p (nI 0) (nI 999) with
    | none => none
    | some x => some (putS st (nI x.1), x.2)) else (match wd tv T p parW with
    | none => none
    | some k => some (putS st (nI (1000 + k)), af tv T p))
abbrev sgn (tv : Nat → Nat) (T p c : Nat) : Prop := p < T ∧ tv p = c
def addS (i : Nat) (st : Sz) : Sz := if 0 < i then putS st (nI 1011) else st
def sumF (tv : Nat → Nat) (T : Nat) : Nat → Nat → Sz → Nat → Re
  | 0, _, st, p => (false, st, p)
  | f + 1, i, st, p => match parF tv T st p with
    | none => (false, st, p)
    | some x => if sgn tv T x.2 43 then sumF tv T f (i + 1) (addS i x.1) (skp tv T (x.2 + 1)) else (true, addS i x.1, x.2)
def sumP (tv : Nat → Nat) (T : Nat) (st : Sz) (p : Nat) : Re := sumF tv T 400 0 st p
/-- a comparison -/
def cmpF (tv : Nat → Nat) (T : Nat) (st : Sz) (p : Nat) : Re := if (sumP tv T st p).1 = true then (if sgn tv T (sumP tv T st p).2.2 60 then (if (sumP tv T (sumP tv T st p).2.1 (skp tv T ((sumP tv T st p).2.2 + 1))).1 = true then (true, putS (sumP tv T (sumP tv T st p).2.1 (skp tv T ((sumP tv T st p).2.2 + 1))).2.1 (nI 1012), (sumP tv T (sumP tv T st p).2.1 (skp tv T ((sumP tv T st p).2.2 + 1))).2.2) else sumP tv T (sumP tv T st p).2.1 (skp tv T ((sumP tv T st p).2.2 + 1)))
    else if sgn tv T (sumP tv T st p).2.2 62 then (if (sumP tv T (sumP tv T st p).2.1 (skp tv T ((sumP tv T st p).2.2 + 1))).1 = true then (true, putS (sumP tv T (sumP tv T st p).2.1 (skp tv T ((sumP tv T st p).2.2 + 1))).2.1 (nI 1013), (sumP tv T (sumP tv T st p).2.1 (skp tv T ((sumP tv T st p).2.2 + 1))).2.2) else sumP tv T (sumP tv T st p).2.1 (skp tv T ((sumP tv T st p).2.2 + 1)))
    else (false, (sumP tv T st p).2)) else sumP tv T st p
def basF (tv : Nat → Nat) (T : Nat) (st : Sz) (p : Nat) : Re := match wd tv T p facW with
  | some k => (true, putS st (nI (1007 + k)), af tv T p)
  | none => cmpF tv T st p
/-- A { w A }, each further one closed by v -/
def lisL (tv : Nat → Nat) (T : Nat) (w : List Nat) (v : Int32) (A : Sz → Nat → Re) : Nat → Sz → Nat → Re
  | 0, st, p => (true, st, p)
  | f + 1, st, p => if wdB tv T p w = true then (if (A st (af tv T p)).1 = true then lisL tv T w v A f (putS (A st (af tv T p)).2.1 v) (A st (af tv T p)).2.2 else A st (af tv T p)) else (true, st, p)
def lisF (tv : Nat → Nat) (T : Nat) (w : List Nat) (v : Int32) (A : Sz → Nat → Re) (st : Sz) (p : Nat) : Re := if (A st p).1 = true then lisL tv T w v A 400 (A st p).2.1 (A st p).2.2 else A st p
def evyF (tv : Nat → Nat) (T : Nat) (A : Sz → Nat → Re) : Sz → Nat → Re := lisF tv T kAnd (nI 1014) A
def anyF (tv : Nat → Nat) (T : Nat) (A : Sz → Nat → Re) : Sz → Nat → Re := lisF tv T kOr (nI 1015) (evyF tv T A)
def clsF (tv : Nat → Nat) (T : Nat) (r : Re) : Re := if r.1 = true ∧ sgn tv T r.2.2 41 then (true, r.2.1, skp tv T (r.2.2 + 1)) else (false, r.2)
def notF (r : Re) : Re := if r.1 = true then (true, putS r.2.1 (nI 1010), r.2.2) else r
def atoF (tv : Nat → Nat) (T : Nat) : Nat → Sz → Nat → Re
  | 0 => basF tv T
  | e + 1 => fun st p => if wdB tv T p kNot = true then notF (atoF tv T e st (af tv T p)) else if sgn tv T p 40 then clsF tv T (anyF tv T (atoF tv T e) st (skp tv T (p + 1))) else basF tv T st p
/-- what a reading method does -/
def RdC (K : Nat → Nat × Nat) (I : Mem) (L : Nat → Nat → Int64) (R : Nat → Nat → Option Nat) (n s T M dp h : Nat) (F : Sz → Nat → Re) : Prop := ∀ (d : Nat) (st : Sz) (p : Nat) (Q : Lo → Lm → Prop), st.2 ≤ 400 → p ≤ T →
  (∀ b st2 q, F st p = (b, st2, q) → st2.2 ≤ 400 → q ≤ T → Q (.inl (some (.int (if b = true then nI 1 else nI 0)))) (K, lw I st2 q, L, R, n, s)) → Ok (d + h + 6) M [.ref 41, .int (nI dp)] (K, lw I st p, L, R, n, s) Q
theorem parF_d {tv : Nat → Nat} {T p v q : Nat} {st : Sz} (h : atDg tv T p) (e : numR tv T p (nI 0) (nI 999) = some (v, q)) : parF tv T st p = some (putS st (nI v), q) := by unfold parF; rw [if_pos h, e]
theorem parF_w {tv : Nat → Nat} {T p k : Nat} {st : Sz} (h : ¬ atDg tv T p) (e : wd tv T p parW = some k) : parF tv T st p = some (putS st (nI (1000 + k)), af tv T p) := by unfold parF; rw [if_neg h, e]
theorem addS_le {i : Nat} {st : Sz} (h : st.2 ≤ 400) : (addS i st).2 ≤ 400 := by
  unfold addS; split
  · exact putS_le h
  · exact h

theorem c_put {d : Nat} {K : Nat → Nat × Nat} {I : Nat → Nat → Int32} {L : Nat → Nat → Int64} {R : Nat → Nat → Option Nat} {n s : Nat} {Q : Lo → Lm → Prop} {p : Nat} {st : Sz} {v : Int32} (hT : TK K R n) (hz : st.2 ≤ 400) (kk : Q (.inl none) (K, lw I (putS st v) (p), L, R, n, s)) : Ok (d + 1) 102 [.ref 41, .int v] (K, lw I (st) (p), L, R, n, s) Q := by
  obtain ⟨-, -, hn⟩ := id hT
  refine Ok.enter (F := F_102) (ls := [.ref 41, .int v]) rfl rfl ?_
  refine wp_aload0 (pc' := 1) rfl rfl ?_
  refine wp_getI (pc' := 4) rfl rfl (by first | exact TK.k1 hT rfl | exact TK.kk hT rfl | exact TK.r hT rfl | assumption) rfl ?_
  rw [lw_6]
  refine wp_aload0 (pc' := 5) rfl rfl ?_
  refine wp_getRF (pc' := 8) rfl rfl (by first | exact TK.k1 hT rfl | exact TK.kk hT rfl | exact TK.r hT rfl | assumption) (by first | exact TK.k1 hT rfl | exact TK.kk hT rfl | exact TK.r hT rfl | assumption) rfl ?_
  refine wp_alen (pc' := 9) rfl (by first | exact TK.k1 hT rfl | exact TK.kk hT rfl | exact TK.r hT rfl | assumption) rfl rfl rfl ?_
  refine wp_icmpge (pc' := 12) rfl rfl ?_ ?_
  · intro h9
    refine wp_vret rfl rfl ?_
    first | exact Qu kk (by unfold putS; rw [if_pos (lt_nI h9 (by omega) (by decide))]) | exact Qu kk (by unfold putS; rw [if_neg (fun q => h9 (nI_lt q (by decide)))])
  · intro h9
    refine wp_aload0 (pc' := 13) rfl rfl ?_
    refine wp_getRF (pc' := 16) rfl rfl (by first | exact TK.k1 hT rfl | exact TK.kk hT rfl | exact TK.r hT rfl | assumption) (by first | exact TK.k1 hT rfl | exact TK.kk hT rfl | exact TK.r hT rfl | assumption) rfl ?_
    refine wp_aload0 (pc' := 17) rfl rfl ?_
    refine wp_getI (pc' := 20) rfl rfl (by first | exact TK.k1 hT rfl | exact TK.kk hT rfl | exact TK.r hT rfl | assumption) rfl ?_
    rw [lw_6]
    refine wp_iload1 (pc' := 21) rfl rfl ?_
    refine wp_iast st.2 (pc' := 22) rfl (TK.kk hT rfl) (by omega) rfl (lt_nI h9 (by omega) (by decide)) (by decide) rfl ?_
    rw [lw_up45]
    refine wp_aload0 (pc' := 23) rfl rfl ?_
    refine wp_dup (pc' := 24) rfl rfl rfl ?_
    refine wp_getI (pc' := 27) rfl rfl (by first | exact TK.k1 hT rfl | exact TK.kk hT rfl | exact TK.r hT rfl | assumption) rfl ?_
    rw [lw_6]
    refine wp_iconst (v := nI 1) (pc' := 28) rfl rfl rfl ?_
    first | refine wp_iaddN (pc' := 29) rfl (by with_reducible rfl) (by with_reducible rfl) rfl ?_ | refine wp_iadd (pc' := 29) rfl rfl ?_
    refine wp_putI (pc' := 32) rfl rfl (TK.k1 hT rfl) (by omega) rfl ?_
    rw [lw_up6]
    refine wp_vret rfl rfl ?_
    first | exact Qu kk (by unfold putS; rw [if_pos (lt_nI h9 (by omega) (by decide))]) | exact Qu kk (by unfold putS; rw [if_neg (fun q => h9 (nI_lt q (by decide)))])
theorem c_readSum {d : Nat} {K : Nat → Nat × Nat} {I : Nat → Nat → Int32} {L : Nat → Nat → Int64} {R : Nat → Nat → Option Nat} {n s : Nat} {Q : Lo → Lm → Prop} {T p : Nat} {tv : Nat → Nat} {st : Sz} (hT : TK K R n) (hR : RdI I T tv) (hS : SS K I R) (hz : st.2 ≤ 400) (hp : p ≤ T) (kk : ∀ b st2 q, sumP tv T st p = (b, st2, q) → st2.2 ≤ 400 → q ≤ T → Q (.inl (some (.int (if b = true then nI 1 else nI 0)))) (K, lw I st2 q, L, R, n, s)) : Ok (d + 5) 103 [.ref 41] (K, lw I (st) (p), L, R, n, s) Q := by
  obtain ⟨-, -, hn⟩ := id hT
  have hRl : ∀ st, RdI (lw0 I st) T tv := fun st => lw0_rd hR
  have hSl : ∀ st, SS K (lw0 I st) R := fun st => lw0_ss hS
  refine Ok.enter (F := F_103) (ls := [.ref 41, lDead, lDead]) rfl rfl ?_
  refine wp_iconst (v := nI 0) (pc' := 1) rfl rfl rfl ?_
  refine wp_istore1 (pc' := 2) rfl (by first | rfl | assumption) rfl ?_
  have lp2 : ∀ r (i : Nat) (st1 : Sz) (q2 : Nat) (v2 : Value), i + r = 400 → st1.2 ≤ 400 → q2 ≤ T → sumF tv T (400 - i) i st1 q2 = sumP tv T st p → isL v2 = false → WP (d + 4) F_103 2 [.ref 41, .int (nI i), v2] [] (K, lw I (st1) (q2), L, R, n, s) Q := by
    intro r; induction r with
    | zero =>
      intro i st1 q2 v2 hi hv0 hv1 hv2 hv3
      have hi2 : i = 400 := by omega
      skip
      refine wp_iload1 (pc' := 3) rfl rfl ?_
      refine wp_sipush (v := nI 400) (pc' := 6) rfl rfl rfl ?_
      refine wp_icmpgeT rfl (nI_nlt (by omega) (by omega)) ?_
      refine wp_iconst (v := nI 0) (pc' := 104) rfl rfl rfl ?_
      refine wp_iret rfl rfl (by first | rfl | exact nar_if) ?_
      exact kk false st1 q2 (by rw [← hv2, show 400 - i = 0 by omega]; rfl) hv0 hv1
    | succ r ih =>
      intro i st1 q2 v2 hi hv0 hv1 hv2 hv3
      have hlt : i < 400 := by omega
      refine wp_iload1 (pc' := 3) rfl rfl ?_
      refine wp_sipush (v := nI 400) (pc' := 6) rfl rfl rfl ?_
      refine wp_icmpgeF (pc' := 9) rfl (nI_lt (by omega) (by omega)) rfl ?_
      refine wp_aload0 (pc' := 10) rfl rfl ?_
      refine wp_getRF (pc' := 13) rfl rfl (by first | exact TK.k1 hT rfl | exact TK.kk hT rfl | exact TK.r hT rfl | assumption) (by first | exact TK.k1 hT rfl | exact TK.kk hT rfl | exact TK.r hT rfl | assumption) rfl ?_
      refine wp_callV1 (pc' := 16) rfl rfl rfl rfl rfl (by first | exact TK.k1 hT rfl | exact TK.kk hT rfl | exact TK.r hT rfl | assumption) rfl rfl ?_
      change Ok _ _ _ (K, rdM (lw0 I st1) q2, L, R, n, s) _
      refine c_isAtDigit hT (hRl _) hv1 ?_
      refine Cont.v ?_
      first | refine wp_ifeqB (pc' := 19) rfl rfl ?_ ?_ | refine wp_ifeq (pc' := 19) rfl rfl ?_ ?_
      · intro h16
        refine wp_aload0 (pc' := 47) rfl rfl ?_
        refine wp_getRF (pc' := 50) rfl rfl (by first | exact TK.k1 hT rfl | exact TK.kk hT rfl | exact TK.r hT rfl | assumption) (by first | exact TK.k1 hT rfl | exact TK.kk hT rfl | exact TK.r hT rfl | assumption) rfl ?_
        refine wp_pool (v := .ref (lmB + 22)) (pc' := 52) rfl rfl rfl rfl rfl ?_
        refine wp_callV2 (pc' := 55) rfl rfl rfl rfl rfl (by first | exact TK.k1 hT rfl | exact TK.kk hT rfl | exact TK.r hT rfl | assumption) rfl rfl ?_
        change Ok _ _ _ (K, rdM (lw0 I st1) q2, L, R, n, s) _
        refine c_pick (w := 11) parW hT (hRl _) (hSl _) (by decide) (by decide) (by decide) hv1 (fun hk => ?_) (fun k hk => ?_)
        · refine Cont.v ?_
          refine wp_istore2 (pc' := 56) rfl (by first | rfl | assumption) rfl ?_
          refine wp_iload2 (pc' := 57) rfl rfl ?_
          refine wp_iconst (v := (-1)) (pc' := 58) rfl rfl rfl ?_
          refine wp_icmpneF (pc' := 61) rfl rfl rfl ?_
          refine wp_iconst (v := nI 0) (pc' := 62) rfl rfl rfl ?_
          refine wp_iret rfl rfl rfl ?_
          exact kk false st1 q2 (by rw [← hv2, show 400 - i = (400 - (i + 1)) + 1 by omega, sumF, show parF tv T st1 q2 = none from by unfold parF; rw [if_neg h16, hk]]) hv0 hv1
        have hk7 : k < 7 := by have := (pickW_lt _ _ _ hk).2; exact this
        refine Cont.v ?_
        refine wp_istore2 (pc' := 56) rfl (by first | rfl | assumption) rfl ?_
        refine wp_iload2 (pc' := 57) rfl rfl ?_
        refine wp_iconst (v := (-1)) (pc' := 58) rfl rfl rfl ?_
        refine wp_icmpneT rfl (nI_nm1 (by omega)) ?_
        refine wp_aload0 (pc' := 64) rfl rfl ?_
        refine wp_sipush (v := nI 1000) (pc' := 67) rfl rfl rfl ?_
        refine wp_iload2 (pc' := 68) rfl rfl ?_
        first | refine wp_iaddN (pc' := 69) rfl (by with_reducible rfl) (by with_reducible rfl) rfl ?_ | refine wp_iadd (pc' := 69) rfl rfl ?_
        refine wp_callV2 (pc' := 72) rfl rfl rfl rfl rfl (by first | exact TK.k1 hT rfl | exact TK.kk hT rfl | exact TK.r hT rfl | assumption) rfl rfl ?_
        change Ok _ _ _ (K, lw I st1 (af tv T q2), L, R, n, s) _
        refine c_put hT hv0 ?_
        refine Cont.u ?_
        refine wp_iload1 (pc' := 73) rfl rfl ?_
        refine wp_ifle (pc' := 76) rfl rfl ?_ ?_
        · intro h73
          first | (have hx : parF tv T st1 q2 = some (putS st1 (nI v), q1) := parF_d h16 ev; have hza : (addS i (putS st1 (nI v))).2 ≤ 400 := addS_le (putS_le hv0); have hq3 : q1 ≤ T := hqvb; refine WP.cg (t' := (K, lw I (addS i (putS st1 (nI v))) (q1), L, R, n, s)) ?_ rfl rfl (by unfold addS; first | rw [if_pos (lt_nI h73 (by decide) (by omega))] | rw [if_neg (fun z => h73 (nI_lt z (by omega)))]); generalize putS st1 (nI v) = st3 at hx hza ⊢; generalize hq3e : q1 = q3 at hx hq3 ⊢) | (have hx : parF tv T st1 q2 = some (putS st1 (nI (1000 + k)), (af tv T q2)) := parF_w h16 hk; have hza : (addS i (putS st1 (nI (1000 + k)))).2 ≤ 400 := addS_le (putS_le hv0); have hq3 : (af tv T q2) ≤ T := (af_ge hv1).2; refine WP.cg (t' := (K, lw I (addS i (putS st1 (nI (1000 + k)))) ((af tv T q2)), L, R, n, s)) ?_ rfl rfl (by unfold addS; first | rw [if_pos (lt_nI h73 (by decide) (by omega))] | rw [if_neg (fun z => h73 (nI_lt z (by omega)))]); generalize putS st1 (nI (1000 + k)) = st3 at hx hza ⊢; generalize hq3e : (af tv T q2) = q3 at hx hq3 ⊢)
          refine wp_aload0 (pc' := 84) rfl rfl ?_
          refine wp_getRF (pc' := 87) rfl rfl (by first | exact TK.k1 hT rfl | exact TK.kk hT rfl | exact TK.r hT rfl | assumption) (by first | exact TK.k1 hT rfl | exact TK.kk hT rfl | exact TK.r hT rfl | assumption) rfl ?_
          refine wp_bipush (v := nI 43) (pc' := 89) rfl rfl rfl ?_
          refine wp_callV2 (pc' := 92) rfl rfl rfl rfl rfl (by first | exact TK.k1 hT rfl | exact TK.kk hT rfl | exact TK.r hT rfl | assumption) rfl rfl ?_
          change Ok _ _ _ (K, rdM (lw0 I (addS i st3)) q3, L, R, n, s) _
          refine c_takeSign hT (hRl _) hq3 (by decide) (fun hsg => ?_) (fun hsg => ?_)
          · refine Cont.v ?_
            refine wp_ifneF (pc' := 95) rfl rfl rfl ?_
            refine wp_iconst (v := nI 1) (pc' := 96) rfl rfl rfl ?_
            refine wp_iret rfl rfl rfl ?_
            exact kk true _ _ (by rw [← hv2, show 400 - i = (400 - (i + 1)) + 1 by omega, sumF, hx]; dsimp only; rw [if_neg hsg]) hza hq3
          refine Cont.v ?_
          refine wp_ifneT rfl (by decide) ?_
          first | refine wp_iinc1 (w := nI 1) (pc' := 100) rfl rfl rfl (by with_reducible exact nI_add _ _) rfl ?_ | refine wp_iinc1 (w := nI 1) (pc' := 100) rfl rfl rfl rfl rfl ?_
          refine wp_goto rfl ?_
          exact WP.cg (ih (i + 1) (addS i st3) (skp tv T (q3 + 1)) _ (by omega) hza (skp_ge (p := q3 + 1) (by omega)).2 (by rw [show 400 - i = (400 - (i + 1)) + 1 by omega, sumF, hx] at hv2; dsimp only at hv2; rw [if_pos hsg] at hv2; exact hv2) (by first | rfl | assumption)) (lC1 (lI1 (by rfl) (lC1 rfl))) rfl (by rfl)
        · intro h73
          refine wp_aload0 (pc' := 77) rfl rfl ?_
          refine wp_sipush (v := nI 1011) (pc' := 80) rfl rfl rfl ?_
          refine wp_callV2 (pc' := 83) rfl rfl rfl rfl rfl (by first | exact TK.k1 hT rfl | exact TK.kk hT rfl | exact TK.r hT rfl | assumption) rfl rfl ?_
          refine c_put hT (putS_le hv0) ?_
          refine Cont.u ?_
          first | (have hx : parF tv T st1 q2 = some (putS st1 (nI v), q1) := parF_d h16 ev; have hza : (addS i (putS st1 (nI v))).2 ≤ 400 := addS_le (putS_le hv0); have hq3 : q1 ≤ T := hqvb; refine WP.cg (t' := (K, lw I (addS i (putS st1 (nI v))) (q1), L, R, n, s)) ?_ rfl rfl (by unfold addS; first | rw [if_pos (lt_nI h73 (by decide) (by omega))] | rw [if_neg (fun z => h73 (nI_lt z (by omega)))]); generalize putS st1 (nI v) = st3 at hx hza ⊢; generalize hq3e : q1 = q3 at hx hq3 ⊢) | (have hx : parF tv T st1 q2 = some (putS st1 (nI (1000 + k)), (af tv T q2)) := parF_w h16 hk; have hza : (addS i (putS st1 (nI (1000 + k)))).2 ≤ 400 := addS_le (putS_le hv0); have hq3 : (af tv T q2) ≤ T := (af_ge hv1).2; refine WP.cg (t' := (K, lw I (addS i (putS st1 (nI (1000 + k)))) ((af tv T q2)), L, R, n, s)) ?_ rfl rfl (by unfold addS; first | rw [if_pos (lt_nI h73 (by decide) (by omega))] | rw [if_neg (fun z => h73 (nI_lt z (by omega)))]); generalize putS st1 (nI (1000 + k)) = st3 at hx hza ⊢; generalize hq3e : (af tv T q2) = q3 at hx hq3 ⊢)
          refine wp_aload0 (pc' := 84) rfl rfl ?_
          refine wp_getRF (pc' := 87) rfl rfl (by first | exact TK.k1 hT rfl | exact TK.kk hT rfl | exact TK.r hT rfl | assumption) (by first | exact TK.k1 hT rfl | exact TK.kk hT rfl | exact TK.r hT rfl | assumption) rfl ?_
          refine wp_bipush (v := nI 43) (pc' := 89) rfl rfl rfl ?_
          refine wp_callV2 (pc' := 92) rfl rfl rfl rfl rfl (by first | exact TK.k1 hT rfl | exact TK.kk hT rfl | exact TK.r hT rfl | assumption) rfl rfl ?_
          change Ok _ _ _ (K, rdM (lw0 I (addS i st3)) q3, L, R, n, s) _
          refine c_takeSign hT (hRl _) hq3 (by decide) (fun hsg => ?_) (fun hsg => ?_)
          · refine Cont.v ?_
            refine wp_ifneF (pc' := 95) rfl rfl rfl ?_
            refine wp_iconst (v := nI 1) (pc' := 96) rfl rfl rfl ?_
            refine wp_iret rfl rfl rfl ?_
            exact kk true _ _ (by rw [← hv2, show 400 - i = (400 - (i + 1)) + 1 by omega, sumF, hx]; dsimp only; rw [if_neg hsg]) hza hq3
          refine Cont.v ?_
          refine wp_ifneT rfl (by decide) ?_
          first | refine wp_iinc1 (w := nI 1) (pc' := 100) rfl rfl rfl (by with_reducible exact nI_add _ _) rfl ?_ | refine wp_iinc1 (w := nI 1) (pc' := 100) rfl rfl rfl rfl rfl ?_
          refine wp_goto rfl ?_
          exact WP.cg (ih (i + 1) (addS i st3) (skp tv T (q3 + 1)) _ (by omega) hza (skp_ge (p := q3 + 1) (by omega)).2 (by rw [show 400 - i = (400 - (i + 1)) + 1 by omega, sumF, hx] at hv2; dsimp only at hv2; rw [if_pos hsg] at hv2; exact hv2) (by first | rfl | assumption)) (lC1 (lI1 (by rfl) (lC1 rfl))) rfl (by rfl)
      · intro h16
        refine wp_aload0 (pc' := 20) rfl rfl ?_
        refine wp_getRF (pc' := 23) rfl rfl (by first | exact TK.k1 hT rfl | exact TK.kk hT rfl | exact TK.r hT rfl | assumption) (by first | exact TK.k1 hT rfl | exact TK.kk hT rfl | exact TK.r hT rfl | assumption) rfl ?_
        refine wp_iconst (v := nI 0) (pc' := 24) rfl rfl rfl ?_
        refine wp_sipush (v := nI 999) (pc' := 27) rfl rfl rfl ?_
        refine wp_callV3 (pc' := 30) rfl rfl rfl rfl rfl (by first | exact TK.k1 hT rfl | exact TK.kk hT rfl | exact TK.r hT rfl | assumption) rfl rfl ?_
        change Ok _ _ _ (K, rdM (lw0 I st1) q2, L, R, n, s) _
        refine c_takeNumber hT (hRl _) hv1 ?_
        refine Cont.v ?_
        refine wp_istore2 (pc' := 31) rfl (by first | rfl | assumption) rfl ?_
        refine wp_iload2 (pc' := 32) rfl rfl ?_
        refine wp_iconst (v := (-1)) (pc' := 33) rfl rfl rfl ?_
        refine wp_icmpne (pc' := 36) rfl rfl ?_ ?_
        · intro h33
          obtain ⟨v, q1, ev, hlv, hlov, hupv, hqva, hqvb⟩ := num_some hv1 h33
          rw [ev]
          dsimp only [numV, numP]
          refine wp_aload0 (pc' := 39) rfl rfl ?_
          refine wp_iload2 (pc' := 40) rfl rfl ?_
          refine wp_callV2 (pc' := 43) rfl rfl rfl rfl rfl (by first | exact TK.k1 hT rfl | exact TK.kk hT rfl | exact TK.r hT rfl | assumption) rfl rfl ?_
          change Ok _ _ _ (K, lw I st1 q1, L, R, n, s) _
          refine c_put hT hv0 ?_
          refine Cont.u ?_
          refine wp_goto rfl ?_
          refine wp_iload1 (pc' := 73) rfl rfl ?_
          refine wp_ifle (pc' := 76) rfl rfl ?_ ?_
          · intro h73
            first | (have hx : parF tv T st1 q2 = some (putS st1 (nI v), q1) := parF_d h16 ev; have hza : (addS i (putS st1 (nI v))).2 ≤ 400 := addS_le (putS_le hv0); have hq3 : q1 ≤ T := hqvb; refine WP.cg (t' := (K, lw I (addS i (putS st1 (nI v))) (q1), L, R, n, s)) ?_ rfl rfl (by unfold addS; first | rw [if_pos (lt_nI h73 (by decide) (by omega))] | rw [if_neg (fun z => h73 (nI_lt z (by omega)))]); generalize putS st1 (nI v) = st3 at hx hza ⊢; generalize hq3e : q1 = q3 at hx hq3 ⊢) | (have hx : parF tv T st1 q2 = some (putS st1 (nI (1000 + k)), (af tv T q2)) := parF_w h16 hk; have hza : (addS i (putS st1 (nI (1000 + k)))).2 ≤ 400 := addS_le (putS_le hv0); have hq3 : (af tv T q2) ≤ T := (af_ge hv1).2; refine WP.cg (t' := (K, lw I (addS i (putS st1 (nI (1000 + k)))) ((af tv T q2)), L, R, n, s)) ?_ rfl rfl (by unfold addS; first | rw [if_pos (lt_nI h73 (by decide) (by omega))] | rw [if_neg (fun z => h73 (nI_lt z (by omega)))]); generalize putS st1 (nI (1000 + k)) = st3 at hx hza ⊢; generalize hq3e : (af tv T q2) = q3 at hx hq3 ⊢)
            refine wp_aload0 (pc' := 84) rfl rfl ?_
            refine wp_getRF (pc' := 87) rfl rfl (by first | exact TK.k1 hT rfl | exact TK.kk hT rfl | exact TK.r hT rfl | assumption) (by first | exact TK.k1 hT rfl | exact TK.kk hT rfl | exact TK.r hT rfl | assumption) rfl ?_
            refine wp_bipush (v := nI 43) (pc' := 89) rfl rfl rfl ?_
            refine wp_callV2 (pc' := 92) rfl rfl rfl rfl rfl (by first | exact TK.k1 hT rfl | exact TK.kk hT rfl | exact TK.r hT rfl | assumption) rfl rfl ?_
            change Ok _ _ _ (K, rdM (lw0 I (addS i st3)) q3, L, R, n, s) _
            refine c_takeSign hT (hRl _) hq3 (by decide) (fun hsg => ?_) (fun hsg => ?_)
            · refine Cont.v ?_
              refine wp_ifneF (pc' := 95) rfl rfl rfl ?_
              refine wp_iconst (v := nI 1) (pc' := 96) rfl rfl rfl ?_
              refine wp_iret rfl rfl rfl ?_
              exact kk true _ _ (by rw [← hv2, show 400 - i = (400 - (i + 1)) + 1 by omega, sumF, hx]; dsimp only; rw [if_neg hsg]) hza hq3
            refine Cont.v ?_
            refine wp_ifneT rfl (by decide) ?_
            first | refine wp_iinc1 (w := nI 1) (pc' := 100) rfl rfl rfl (by with_reducible exact nI_add _ _) rfl ?_ | refine wp_iinc1 (w := nI 1) (pc' := 100) rfl rfl rfl rfl rfl ?_
            refine wp_goto rfl ?_
            exact WP.cg (ih (i + 1) (addS i st3) (skp tv T (q3 + 1)) _ (by omega) hza (skp_ge (p := q3 + 1) (by omega)).2 (by rw [show 400 - i = (400 - (i + 1)) + 1 by omega, sumF, hx] at hv2; dsimp only at hv2; rw [if_pos hsg] at hv2; exact hv2) (by first | rfl | assumption)) (lC1 (lI1 (by rfl) (lC1 rfl))) rfl (by rfl)
          · intro h73
            refine wp_aload0 (pc' := 77) rfl rfl ?_
            refine wp_sipush (v := nI 1011) (pc' := 80) rfl rfl rfl ?_
            refine wp_callV2 (pc' := 83) rfl rfl rfl rfl rfl (by first | exact TK.k1 hT rfl | exact TK.kk hT rfl | exact TK.r hT rfl | assumption) rfl rfl ?_
            refine c_put hT (putS_le hv0) ?_
            refine Cont.u ?_
            first | (have hx : parF tv T st1 q2 = some (putS st1 (nI v), q1) := parF_d h16 ev; have hza : (addS i (putS st1 (nI v))).2 ≤ 400 := addS_le (putS_le hv0); have hq3 : q1 ≤ T := hqvb; refine WP.cg (t' := (K, lw I (addS i (putS st1 (nI v))) (q1), L, R, n, s)) ?_ rfl rfl (by unfold addS; first | rw [if_pos (lt_nI h73 (by decide) (by omega))] | rw [if_neg (fun z => h73 (nI_lt z (by omega)))]); generalize putS st1 (nI v) = st3 at hx hza ⊢; generalize hq3e : q1 = q3 at hx hq3 ⊢) | (have hx : parF tv T st1 q2 = some (putS st1 (nI (1000 + k)), (af tv T q2)) := parF_w h16 hk; have hza : (addS i (putS st1 (nI (1000 + k)))).2 ≤ 400 := addS_le (putS_le hv0); have hq3 : (af tv T q2) ≤ T := (af_ge hv1).2; refine WP.cg (t' := (K, lw I (addS i (putS st1 (nI (1000 + k)))) ((af tv T q2)), L, R, n, s)) ?_ rfl rfl (by unfold addS; first | rw [if_pos (lt_nI h73 (by decide) (by omega))] | rw [if_neg (fun z => h73 (nI_lt z (by omega)))]); generalize putS st1 (nI (1000 + k)) = st3 at hx hza ⊢; generalize hq3e : (af tv T q2) = q3 at hx hq3 ⊢)
            refine wp_aload0 (pc' := 84) rfl rfl ?_
            refine wp_getRF (pc' := 87) rfl rfl (by first | exact TK.k1 hT rfl | exact TK.kk hT rfl | exact TK.r hT rfl | assumption) (by first | exact TK.k1 hT rfl | exact TK.kk hT rfl | exact TK.r hT rfl | assumption) rfl ?_
            refine wp_bipush (v := nI 43) (pc' := 89) rfl rfl rfl ?_
            refine wp_callV2 (pc' := 92) rfl rfl rfl rfl rfl (by first | exact TK.k1 hT rfl | exact TK.kk hT rfl | exact TK.r hT rfl | assumption) rfl rfl ?_
            change Ok _ _ _ (K, rdM (lw0 I (addS i st3)) q3, L, R, n, s) _
            refine c_takeSign hT (hRl _) hq3 (by decide) (fun hsg => ?_) (fun hsg => ?_)
            · refine Cont.v ?_
              refine wp_ifneF (pc' := 95) rfl rfl rfl ?_
              refine wp_iconst (v := nI 1) (pc' := 96) rfl rfl rfl ?_
              refine wp_iret rfl rfl rfl ?_
              exact kk true _ _ (by rw [← hv2, show 400 - i = (400 - (i + 1)) + 1 by omega, sumF, hx]; dsimp only; rw [if_neg hsg]) hza hq3
            refine Cont.v ?_
            refine wp_ifneT rfl (by decide) ?_
            first | refine wp_iinc1 (w := nI 1) (pc' := 100) rfl rfl rfl (by with_reducible exact nI_add _ _) rfl ?_ | refine wp_iinc1 (w := nI 1) (pc' := 100) rfl rfl rfl rfl rfl ?_
            refine wp_goto rfl ?_
            exact WP.cg (ih (i + 1) (addS i st3) (skp tv T (q3 + 1)) _ (by omega) hza (skp_ge (p := q3 + 1) (by omega)).2 (by rw [show 400 - i = (400 - (i + 1)) + 1 by omega, sumF, hx] at hv2; dsimp only at hv2; rw [if_pos hsg] at hv2; exact hv2) (by first | rfl | assumption)) (lC1 (lI1 (by rfl) (lC1 rfl))) rfl (by rfl)
        · intro h33
          refine wp_iconst (v := nI 0) (pc' := 37) rfl rfl rfl ?_
          refine wp_iret rfl rfl (by first | rfl | exact nar_if) ?_
          have e := num_none hv1 h33
          rw [e]
          exact kk false st1 q2 (by rw [← hv2, show 400 - i = (400 - (i + 1)) + 1 by omega, sumF, show parF tv T st1 q2 = none from by unfold parF; rw [if_pos h16, e]]) hv0 hv1
  exact WP.cg (lp2 (400 - (0)) (0) st p _ (by omega) hz hp rfl (by first | rfl | assumption)) (lC1 (lI1 (by rfl) (lC1 rfl))) rfl (by rfl)
theorem c_evy {K : Nat → Nat × Nat} {I : Mem} {L : Nat → Nat → Int64} {R : Nat → Nat → Option Nat} {n s : Nat} {T g dp : Nat} {tv : Nat → Nat} {A : Sz → Nat → Re} (hT : TK K R n) (hR : RdI I T tv) (hS : SS K I R) (hA : RdC K I L R n s T 101 dp g A) : RdC K I L R n s T 100 dp (g + 1) (lisF tv T kAnd (nI 1014) A) := by
  intro d st p Q hz hp kk
  obtain ⟨-, -, hn⟩ := id hT
  have hRl : ∀ st, RdI (lw0 I st) T tv := fun st => lw0_rd hR
  have hSl : ∀ st, SS K (lw0 I st) R := fun st => lw0_ss hS
  rw [show d + (g + 1) + 6 = (d + g + 6) + 1 by omega]
  refine Ok.enter (F := F_100) (ls := [.ref 41, .int (nI dp), lDead]) rfl rfl ?_
  refine wp_aload0 (pc' := 1) rfl rfl ?_
  refine wp_iload1 (pc' := 2) rfl rfl ?_
  refine wp_callV2 (pc' := 5) rfl rfl rfl rfl rfl (by first | exact TK.k1 hT rfl | exact TK.kk hT rfl | exact TK.r hT rfl | assumption) rfl rfl ?_
  refine hA _ _ _ _ hz hp (fun b st0 q0 e0 hz0 hq0 => ?_)
  refine Cont.v ?_
  first | refine wp_ifneB (pc' := 8) rfl rfl ?_ ?_ | refine wp_ifne (pc' := 8) rfl rfl ?_ ?_
  · intro h5
    refine wp_iconst (v := nI 0) (pc' := 11) rfl rfl rfl ?_
    refine wp_istore2 (pc' := 12) rfl (by first | rfl | assumption) rfl ?_
    have lp12 : ∀ r (i : Nat) (st1 : Sz) (q2 : Nat), i + r = 400 → st1.2 ≤ 400 → q2 ≤ T → lisL tv T kAnd (nI 1014) A (400 - i) st1 q2 = lisL tv T kAnd (nI 1014) A 400 st0 q0 → WP (d + g + 6) F_100 12 [.ref 41, .int (nI dp), .int (nI i)] [] (K, lw I (st1) (q2), L, R, n, s) Q := by
      intro r; induction r with
      | zero =>
        intro i st1 q2 hi hv0 hv1 hv2
        have hi2 : i = 400 := by omega
        skip
        refine wp_iload2 (pc' := 13) rfl rfl ?_
        refine wp_sipush (v := nI 400) (pc' := 16) rfl rfl rfl ?_
        refine wp_icmpgeT rfl (nI_nlt (by omega) (by omega)) ?_
        refine wp_iconst (v := nI 1) (pc' := 55) rfl rfl rfl ?_
        refine wp_iret rfl rfl (by first | rfl | exact nar_if) ?_
        exact kk true st1 q2 (by unfold lisF; rw [e0, if_pos h5, ← hv2, show 400 - i = 0 by omega]; rfl) hv0 hv1
      | succ r ih =>
        intro i st1 q2 hi hv0 hv1 hv2
        have hlt : i < 400 := by omega
        refine wp_iload2 (pc' := 13) rfl rfl ?_
        refine wp_sipush (v := nI 400) (pc' := 16) rfl rfl rfl ?_
        refine wp_icmpgeF (pc' := 19) rfl (nI_lt (by omega) (by omega)) rfl ?_
        refine wp_aload0 (pc' := 20) rfl rfl ?_
        refine wp_getRF (pc' := 23) rfl rfl (by first | exact TK.k1 hT rfl | exact TK.kk hT rfl | exact TK.r hT rfl | assumption) (by first | exact TK.k1 hT rfl | exact TK.kk hT rfl | exact TK.r hT rfl | assumption) rfl ?_
        refine wp_pool (v := .ref (lmB + 24)) (pc' := 25) rfl rfl rfl rfl rfl ?_
        refine wp_callV2 (pc' := 28) rfl rfl rfl rfl rfl (by first | exact TK.k1 hT rfl | exact TK.kk hT rfl | exact TK.r hT rfl | assumption) rfl rfl ?_
        change Ok _ _ _ (K, rdM (lw0 I st1) q2, L, R, n, s) _
        refine c_word (w := 12) kAnd hT (hRl _) (hSl _) (by decide) (by decide) (by decide) hv1 ?_
        refine Cont.v ?_
        first | refine wp_ifeqB (pc' := 31) rfl rfl ?_ ?_ | refine wp_ifeq (pc' := 31) rfl rfl ?_ ?_
        · intro h28
          refine wp_iconst (v := nI 1) (pc' := 55) rfl rfl rfl ?_
          refine wp_iret rfl rfl (by first | rfl | exact nar_if) ?_
          rw [afB_f h28]
          exact kk true st1 q2 (by unfold lisF; rw [e0, if_pos h5]; dsimp only; rw [← hv2, show 400 - i = (400 - (i + 1)) + 1 by omega, lisL, if_neg h28]) hv0 hv1
        · intro h28
          refine wp_aload0 (pc' := 32) rfl rfl ?_
          refine wp_iload1 (pc' := 33) rfl rfl ?_
          refine wp_callV2 (pc' := 36) rfl rfl rfl rfl rfl (by first | exact TK.k1 hT rfl | exact TK.kk hT rfl | exact TK.r hT rfl | assumption) rfl rfl ?_
          rw [afB_t h28]
          refine hA _ _ _ _ hv0 (af_ge hv1).2 (fun b2 st3 q3 e3 hz3 hq3 => ?_)
          refine Cont.v ?_
          first | refine wp_ifneB (pc' := 39) rfl rfl ?_ ?_ | refine wp_ifne (pc' := 39) rfl rfl ?_ ?_
          · intro h36
            refine wp_aload0 (pc' := 42) rfl rfl ?_
            refine wp_sipush (v := nI 1014) (pc' := 45) rfl rfl rfl ?_
            refine wp_callV2 (pc' := 48) rfl rfl rfl rfl rfl (by first | exact TK.k1 hT rfl | exact TK.kk hT rfl | exact TK.r hT rfl | assumption) rfl rfl ?_
            refine c_put hT hz3 ?_
            refine Cont.u ?_
            first | refine wp_iinc2 (w := nI 1) (pc' := 51) rfl rfl rfl (by with_reducible exact nI_add _ _) rfl ?_ | refine wp_iinc2 (w := nI 1) (pc' := 51) rfl rfl rfl rfl rfl ?_
            refine wp_goto rfl ?_
            exact WP.cg (ih (i + 1) (putS st3 (nI 1014)) q3 (by omega) (putS_le hz3) hq3 (by rw [show 400 - i = (400 - (i + 1)) + 1 by omega, lisL, if_pos h28, e3, if_pos h36] at hv2; exact hv2)) (lC1 (lI1 (by rfl) (lI1 (by rfl) rfl))) rfl (by rfl)
          · intro h36
            refine wp_iconst (v := nI 0) (pc' := 40) rfl rfl rfl ?_
            refine wp_iret rfl rfl (by first | rfl | exact nar_if) ?_
            obtain rfl : b2 = false := Bool.eq_false_iff.mpr h36
            exact kk false st3 q3 (by unfold lisF; rw [e0, if_pos h5]; dsimp only; rw [← hv2, show 400 - i = (400 - (i + 1)) + 1 by omega, lisL, if_pos h28]; rw [e3]; rfl) hz3 hq3
    exact WP.cg (lp12 (400 - (0)) (0) st0 q0 (by omega) hz0 hq0 rfl) (lC1 (lI1 (by rfl) (lI1 (by rfl) rfl))) rfl (by rfl)
  · intro h5
    refine wp_iconst (v := nI 0) (pc' := 9) rfl rfl rfl ?_
    refine wp_iret rfl rfl (by first | rfl | exact nar_if) ?_
    obtain rfl : b = false := Bool.eq_false_iff.mpr h5
    exact kk false st0 q0 (by unfold lisF; rw [e0]; rfl) hz0 hq0
theorem c_any {K : Nat → Nat × Nat} {I : Mem} {L : Nat → Nat → Int64} {R : Nat → Nat → Option Nat} {n s : Nat} {T g dp : Nat} {tv : Nat → Nat} {A : Sz → Nat → Re} (hT : TK K R n) (hR : RdI I T tv) (hS : SS K I R) (hA : RdC K I L R n s T 100 dp g A) : RdC K I L R n s T 99 dp (g + 1) (lisF tv T kOr (nI 1015) A) := by
  intro d st p Q hz hp kk
  obtain ⟨-, -, hn⟩ := id hT
  have hRl : ∀ st, RdI (lw0 I st) T tv := fun st => lw0_rd hR
  have hSl : ∀ st, SS K (lw0 I st) R := fun st => lw0_ss hS
  rw [show d + (g + 1) + 6 = (d + g + 6) + 1 by omega]
  refine Ok.enter (F := F_99) (ls := [.ref 41, .int (nI dp), lDead]) rfl rfl ?_
  refine wp_aload0 (pc' := 1) rfl rfl ?_
  refine wp_iload1 (pc' := 2) rfl rfl ?_
  refine wp_callV2 (pc' := 5) rfl rfl rfl rfl rfl (by first | exact TK.k1 hT rfl | exact TK.kk hT rfl | exact TK.r hT rfl | assumption) rfl rfl ?_
  refine hA _ _ _ _ hz hp (fun b st0 q0 e0 hz0 hq0 => ?_)
  refine Cont.v ?_
  first | refine wp_ifneB (pc' := 8) rfl rfl ?_ ?_ | refine wp_ifne (pc' := 8) rfl rfl ?_ ?_
  · intro h5
    refine wp_iconst (v := nI 0) (pc' := 11) rfl rfl rfl ?_
    refine wp_istore2 (pc' := 12) rfl (by first | rfl | assumption) rfl ?_
    have lp12 : ∀ r (i : Nat) (st1 : Sz) (q2 : Nat), i + r = 400 → st1.2 ≤ 400 → q2 ≤ T → lisL tv T kOr (nI 1015) A (400 - i) st1 q2 = lisL tv T kOr (nI 1015) A 400 st0 q0 → WP (d + g + 6) F_99 12 [.ref 41, .int (nI dp), .int (nI i)] [] (K, lw I (st1) (q2), L, R, n, s) Q := by
      intro r; induction r with
      | zero =>
        intro i st1 q2 hi hv0 hv1 hv2
        have hi2 : i = 400 := by omega
        skip
        refine wp_iload2 (pc' := 13) rfl rfl ?_
        refine wp_sipush (v := nI 400) (pc' := 16) rfl rfl rfl ?_
        refine wp_icmpgeT rfl (nI_nlt (by omega) (by omega)) ?_
        refine wp_iconst (v := nI 1) (pc' := 55) rfl rfl rfl ?_
        refine wp_iret rfl rfl (by first | rfl | exact nar_if) ?_
        exact kk true st1 q2 (by unfold lisF; rw [e0, if_pos h5, ← hv2, show 400 - i = 0 by omega]; rfl) hv0 hv1
      | succ r ih =>
        intro i st1 q2 hi hv0 hv1 hv2
        have hlt : i < 400 := by omega
        refine wp_iload2 (pc' := 13) rfl rfl ?_
        refine wp_sipush (v := nI 400) (pc' := 16) rfl rfl rfl ?_
        refine wp_icmpgeF (pc' := 19) rfl (nI_lt (by omega) (by omega)) rfl ?_
        refine wp_aload0 (pc' := 20) rfl rfl ?_
        refine wp_getRF (pc' := 23) rfl rfl (by first | exact TK.k1 hT rfl | exact TK.kk hT rfl | exact TK.r hT rfl | assumption) (by first | exact TK.k1 hT rfl | exact TK.kk hT rfl | exact TK.r hT rfl | assumption) rfl ?_
        refine wp_pool (v := .ref (lmB + 26)) (pc' := 25) rfl rfl rfl rfl rfl ?_
        refine wp_callV2 (pc' := 28) rfl rfl rfl rfl rfl (by first | exact TK.k1 hT rfl | exact TK.kk hT rfl | exact TK.r hT rfl | assumption) rfl rfl ?_
        change Ok _ _ _ (K, rdM (lw0 I st1) q2, L, R, n, s) _
        refine c_word (w := 13) kOr hT (hRl _) (hSl _) (by decide) (by decide) (by decide) hv1 ?_
        refine Cont.v ?_
        first | refine wp_ifeqB (pc' := 31) rfl rfl ?_ ?_ | refine wp_ifeq (pc' := 31) rfl rfl ?_ ?_
        · intro h28
          refine wp_iconst (v := nI 1) (pc' := 55) rfl rfl rfl ?_
          refine wp_iret rfl rfl (by first | rfl | exact nar_if) ?_
          rw [afB_f h28]
          exact kk true st1 q2 (by unfold lisF; rw [e0, if_pos h5]; dsimp only; rw [← hv2, show 400 - i = (400 - (i + 1)) + 1 by omega, lisL, if_neg h28]) hv0 hv1
        · intro h28
          refine wp_aload0 (pc' := 32) rfl rfl ?_
          refine wp_iload1 (pc' := 33) rfl rfl ?_
          refine wp_callV2 (pc' := 36) rfl rfl rfl rfl rfl (by first | exact TK.k1 hT rfl | exact TK.kk hT rfl | exact TK.r hT rfl | assumption) rfl rfl ?_
          rw [afB_t h28]
          refine hA _ _ _ _ hv0 (af_ge hv1).2 (fun b2 st3 q3 e3 hz3 hq3 => ?_)
          refine Cont.v ?_
          first | refine wp_ifneB (pc' := 39) rfl rfl ?_ ?_ | refine wp_ifne (pc' := 39) rfl rfl ?_ ?_
          · intro h36
            refine wp_aload0 (pc' := 42) rfl rfl ?_
            refine wp_sipush (v := nI 1015) (pc' := 45) rfl rfl rfl ?_
            refine wp_callV2 (pc' := 48) rfl rfl rfl rfl rfl (by first | exact TK.k1 hT rfl | exact TK.kk hT rfl | exact TK.r hT rfl | assumption) rfl rfl ?_
            refine c_put hT hz3 ?_
            refine Cont.u ?_
            first | refine wp_iinc2 (w := nI 1) (pc' := 51) rfl rfl rfl (by with_reducible exact nI_add _ _) rfl ?_ | refine wp_iinc2 (w := nI 1) (pc' := 51) rfl rfl rfl rfl rfl ?_
            refine wp_goto rfl ?_
            exact WP.cg (ih (i + 1) (putS st3 (nI 1015)) q3 (by omega) (putS_le hz3) hq3 (by rw [show 400 - i = (400 - (i + 1)) + 1 by omega, lisL, if_pos h28, e3, if_pos h36] at hv2; exact hv2)) (lC1 (lI1 (by rfl) (lI1 (by rfl) rfl))) rfl (by rfl)
          · intro h36
            refine wp_iconst (v := nI 0) (pc' := 40) rfl rfl rfl ?_
            refine wp_iret rfl rfl (by first | rfl | exact nar_if) ?_
            obtain rfl : b2 = false := Bool.eq_false_iff.mpr h36
            exact kk false st3 q3 (by unfold lisF; rw [e0, if_pos h5]; dsimp only; rw [← hv2, show 400 - i = (400 - (i + 1)) + 1 by omega, lisL, if_pos h28]; rw [e3]; rfl) hz3 hq3
    exact WP.cg (lp12 (400 - (0)) (0) st0 q0 (by omega) hz0 hq0 rfl) (lC1 (lI1 (by rfl) (lI1 (by rfl) rfl))) rfl (by rfl)
  · intro h5
    refine wp_iconst (v := nI 0) (pc' := 9) rfl rfl rfl ?_
    refine wp_iret rfl rfl (by first | rfl | exact nar_if) ?_
    obtain rfl : b = false := Bool.eq_false_iff.mpr h5
    exact kk false st0 q0 (by unfold lisF; rw [e0]; rfl) hz0 hq0
