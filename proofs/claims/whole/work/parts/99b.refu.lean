/-! THE REFERENCE: a line of the bog's text -/
theorem afB_t2 {tv : Nat → Nat} {T q : Nat} {W : List Nat} (h : wdB tv T q W = true) : afB tv T q W = skp tv T (q + letN tv T q) := afB_t h
def toldV (r : Option (Nat × Nat)) : Int32 := match r with
  | none => nI 100000000
  | some x => nI x.1
/-- what a reader of a number with its word leaves -/
def WnJ (T : Nat) (tv : Nat → Nat) (I : Mem) (r : Option (Nat × Nat)) (bb : Nat) (J : Mem) : Prop := (∀ a, a ≠ 318 → J a = I a) ∧ (∀ j, j ≠ 10 → j ≠ 12 → J 318 j = I 318 j) ∧ (∀ v z, r = some (v, z) → ∃ p, p ≤ T ∧ J 318 10 = nI p ∧ skp tv T p = z) ∧ (r = none → J 318 12 = nI bb)
theorem wn_mk {T : Nat} {tv : Nat → Nat} {I J : Mem} {r : Option (Nat × Nat)} {q e bb : Nat} (h : TkJ I J e bb) (hE : NuE tv T q r e) : WnJ T tv I r bb J := ⟨h.1, h.2.1, fun v z hr => ⟨e, hE.2.1, h.2.2.1, (hE.2.2 v z hr).symm⟩, fun _ => h.2.2.2⟩
theorem wn_no {T : Nat} {tv : Nat → Nat} {I J : Mem} {e bb : Nat} (h : TkJ I J e bb) : WnJ T tv I none bb J := ⟨h.1, h.2.1, fun v z hr => (by cases hr), fun _ => h.2.2.2⟩
theorem wn_id {T : Nat} {tv : Nat → Nat} {I J : Mem} {v z e bb : Nat} (h : TkJ I J e bb) (he : e ≤ T) (hz : skp tv T e = z) : WnJ T tv I (some (v, z)) bb J := ⟨h.1, h.2.1, fun v2 z2 hr => (by cases hr; exact ⟨e, he, h.2.2.1, hz⟩), fun q => (by cases q)⟩

theorem m_behind {d : Nat} {K : Nat → Nat × Nat} {I : Nat → Nat → Int32} {L : Nat → Nat → Int64} {R : Nat → Nat → Option Nat} {n s : Nat} {Q : Lo → Lm → Prop} {T p w up : Nat} {tv : Nat → Nat} {lw : Int32} (W : List Nat) (hT : TK K R n) (hR : RfI I T tv) (hp : p ≤ T) (h10 : I 318 10 = nI p) (hS : SS K I R) (hw : w < 57) (hj : sB w = W) (kk : ∀ r J, mstN tv T (skp tv T p) W lw up = r → WnJ T tv I r (afB tv T (skp tv T p) W) J → Q (.inl (some (.int (numV r)))) (K, J, L, R, n, s)) : Ok (d + 4) 238 [.ref 318, .ref (lmB + 2 * w), .int lw, .int (nI up)] (K, I, L, R, n, s) Q := by
  obtain ⟨-, -, hn⟩ := id hT
  refine Ok.enter (F := F_238) (ls := [.ref 318, .ref (lmB + 2 * w), .int lw, .int (nI up)]) rfl rfl ?_
  refine wp_aload0 (pc' := 1) rfl rfl ?_
  refine wp_callV1 (pc' := 4) rfl rfl rfl rfl rfl (by first | exact TK.k1 hT rfl | exact TK.kk hT rfl | exact TK.r hT rfl | assumption) rfl rfl ?_
  refine m_lettersTJ hT hR hp h10 (fun J1 hJ1 => ?_)
  obtain ⟨q, hq⟩ : ∃ q, skp tv T p = q := ⟨_, rfl⟩
  have hqT := (skp_ge (tv := tv) hp).2
  have hlT := letN_le (tv := tv) (T := T) (p := q)
  rw [hq] at hJ1 hqT kk
  refine Cont.u ?_
  refine wp_aload0 (pc' := 5) rfl rfl ?_
  refine wp_aload1 (pc' := 6) rfl rfl ?_
  refine wp_callV2 (pc' := 9) rfl rfl rfl rfl rfl (by first | exact TK.k1 hT rfl | exact TK.kk hT rfl | exact TK.r hT rfl | assumption) rfl rfl ?_
  refine m_isWordJ (p := q + letN tv T q) (b := q) W hT (tk_rd hJ1 hR) hJ1.2.2.1 hJ1.2.2.2 (tk_ss hJ1 hS) hw hj (by omega) (by omega) ?_
  rw [wb_wd]
  refine Cont.v ?_
  first | refine wp_ifeqB (pc' := 12) rfl rfl ?_ ?_ | refine wp_ifeq (pc' := 12) rfl rfl ?_ ?_
  · intro h9
    refine wp_iconst (v := (-1)) (pc' := 22) rfl rfl rfl ?_
    refine wp_iret rfl rfl rfl ?_
    first | exact kk _ _ (mstN_t h9) (by rw [afB_t2 h9]; exact wn_mk (tk_tr hJ1 hJ2) hE) | exact kk _ _ (mstN_f h9) (by rw [afB_f h9]; exact wn_no hJ1)
  · intro h9
    refine wp_aload0 (pc' := 13) rfl rfl ?_
    refine wp_iload2 (pc' := 14) rfl rfl ?_
    refine wp_iload3 (pc' := 15) rfl rfl ?_
    refine wp_callV3 (pc' := 18) rfl rfl rfl rfl rfl (by first | exact TK.k1 hT rfl | exact TK.kk hT rfl | exact TK.r hT rfl | assumption) rfl rfl ?_
    refine m_numberJ hT (tk_rd hJ1 hR) (show q + letN tv T q ≤ T by omega) hJ1.2.2.1 (fun J2 e hE hJ2 => ?_)
    refine Cont.v ?_
    refine wp_goto rfl ?_
    refine wp_iret rfl rfl rfl ?_
    first | exact kk _ _ (mstN_t h9) (by rw [afB_t2 h9]; exact wn_mk (tk_tr hJ1 hJ2) hE) | exact kk _ _ (mstN_f h9) (by rw [afB_f h9]; exact wn_no hJ1)
theorem m_told {d : Nat} {K : Nat → Nat × Nat} {I : Nat → Nat → Int32} {L : Nat → Nat → Int64} {R : Nat → Nat → Option Nat} {n s : Nat} {Q : Lo → Lm → Prop} {T p w up : Nat} {tv : Nat → Nat} (W : List Nat) (hT : TK K R n) (hR : RfI I T tv) (hp : p ≤ T) (h10 : I 318 10 = nI p) (hS : SS K I R) (hw : w < 57) (hj : sB w = W) (kk : ∀ r J, optN tv T (skp tv T p) W up = r → WnJ T tv I r (afB tv T (skp tv T p) W) J → Q (.inl (some (.int (toldV r)))) (K, J, L, R, n, s)) : Ok (d + 5) 234 [.ref 318, .ref (lmB + 2 * w), .int (nI up), .int (nI 0)] (K, I, L, R, n, s) Q := by
  obtain ⟨-, -, hn⟩ := id hT
  refine Ok.enter (F := F_234) (ls := [.ref 318, .ref (lmB + 2 * w), .int (nI up), .int (nI 0), lDead]) rfl rfl ?_
  refine wp_aload0 (pc' := 1) rfl rfl ?_
  refine wp_aload1 (pc' := 2) rfl rfl ?_
  refine wp_callV2 (pc' := 5) rfl rfl rfl rfl rfl (by first | exact TK.k1 hT rfl | exact TK.kk hT rfl | exact TK.r hT rfl | assumption) rfl rfl ?_
  refine m_passesJ W hT hR hp h10 hS hw hj (fun J1 hJ1 => ?_)
  obtain ⟨q, hq⟩ : ∃ q, skp tv T p = q := ⟨_, rfl⟩
  have hqT := (skp_ge (tv := tv) hp).2
  have hqq := skp_sk (tv := tv) hp
  have hlT := letN_le (tv := tv) (T := T) (p := q)
  rw [hq] at hJ1 hqT hqq kk ⊢
  refine Cont.v ?_
  first | refine wp_ifneB (pc' := 8) rfl rfl ?_ ?_ | refine wp_ifne (pc' := 8) rfl rfl ?_ ?_
  · intro h5
    refine wp_aload0 (pc' := 11) rfl rfl ?_
    refine wp_iconst (v := nI 0) (pc' := 12) rfl rfl rfl ?_
    refine wp_iload2 (pc' := 13) rfl rfl ?_
    refine wp_callV3 (pc' := 16) rfl rfl rfl rfl rfl (by first | exact TK.k1 hT rfl | exact TK.kk hT rfl | exact TK.r hT rfl | assumption) rfl rfl ?_
    rw [if_pos h5] at hJ1
    refine m_numberJ hT (tk_rd hJ1 hR) (show q + letN tv T q ≤ T by omega) hJ1.2.2.1 (fun J2 e hE hJ2 => ?_)
    refine Cont.v ?_
    refine wp_istore4 (pc' := 18) rfl (by first | rfl | assumption) rfl ?_
    refine wp_iload4 (pc' := 20) rfl rfl ?_
    refine wp_ifge (pc' := 23) rfl rfl ?_ ?_
    · intro h20
      refine wp_iload4 (pc' := 30) rfl rfl ?_
      refine wp_iret rfl rfl rfl ?_
      have hat := (skp_ge (tv := tv) (show q + letN tv T q ≤ T by omega)).2
      first | (have hN := num_neg hat h20; exact kk none _ ((optN_t h5).trans hN) (by rw [hN] at hE; rw [afB_t2 h5]; exact wn_mk (tk_tr hJ1 hJ2) hE)) | (obtain ⟨v, z, hN, hv, -⟩ := num_pos hat h20; rw [hN] at hE ⊢; exact kk (some (v, z)) _ ((optN_t h5).trans hN) (by rw [afB_t2 h5]; exact wn_mk (tk_tr hJ1 hJ2) hE))
    · intro h20
      refine wp_pool (v := .int (nI 100000000)) (pc' := 25) rfl rfl rfl rfl rfl ?_
      refine wp_goto rfl ?_
      refine wp_iret rfl rfl rfl ?_
      have hat := (skp_ge (tv := tv) (show q + letN tv T q ≤ T by omega)).2
      first | (have hN := num_neg hat h20; exact kk none _ ((optN_t h5).trans hN) (by rw [hN] at hE; rw [afB_t2 h5]; exact wn_mk (tk_tr hJ1 hJ2) hE)) | (obtain ⟨v, z, hN, hv, -⟩ := num_pos hat h20; rw [hN] at hE ⊢; exact kk (some (v, z)) _ ((optN_t h5).trans hN) (by rw [afB_t2 h5]; exact wn_mk (tk_tr hJ1 hJ2) hE))
  · intro h5
    refine wp_iload3 (pc' := 9) rfl rfl ?_
    refine wp_iret rfl rfl rfl ?_
    rw [if_neg h5] at hJ1
    exact kk (some (0, q)) _ (optN_f h5) (by rw [afB_f h5]; exact wn_id hJ1 hqT hqq)
def celZ (q : Option Int32) : Int32 := match q with
  | none => nI 0
  | some x => x
def CeJ (T : Nat) (tv : Nat → Nat) (I : Mem) (r : Option Int32 × Nat) (J : Mem) : Prop := (∀ a, a ≠ 318 → J a = I a) ∧ (∀ j, j ≠ 10 → j ≠ 12 → J 318 j = I 318 j) ∧ (∀ x, r.1 = some x → ∃ p, p ≤ T ∧ J 318 10 = nI p ∧ skp tv T p = r.2) ∧ (r.1 = none → J 318 12 = nI r.2)
theorem cel_n {tv : Nat → Nat} {T f p : Nat} {x : Int32} (h : numR tv T p (nI 0) (nI 24) = none) : celF tv T (f + 1) x p = (none, p) := by rw [celF, h]
theorem cel_s {tv : Nat → Nat} {T f p v z : Nat} {x : Int32} (h : numR tv T p (nI 0) (nI 24) = some (v, z)) : celF tv T (f + 1) x p = if atDg tv T z then celF tv T f (x ||| jshl (nI 1) (nI v)) z else (some (x ||| jshl (nI 1) (nI v)), z) := by rw [celF, h]
/-- where a row of cells stands: what is still to come of it -/
def CeI (T : Nat) (tv : Nat → Nat) (I : Mem) (r : Option Int32 × Nat) (k : Nat) (x : Int32) (g f : Bool) (J : Mem) : Prop := (∀ a, a ≠ 318 → J a = I a) ∧ (∀ j, j ≠ 10 → j ≠ 12 → J 318 j = I 318 j) ∧ (f = true → k ≤ 8 ∧ ∃ p, p ≤ T ∧ J 318 10 = nI p ∧ celF tv T (8 - k) x (skp tv T p) = r) ∧ (f = false → CeJ T tv I r J ∧ celZ r.1 = if g = true then x else nI 0)

theorem cel_bad {T k q : Nat} {tv : Nat → Nat} {I J : Mem} {r : Option Int32 × Nat} {x y : Int32} (hcr : celF tv T (8 - k) x q = r) (hk : k ≤ 8) (hq : q ≤ T) (h : numV (numR tv T q (nI 0) (nI 24)) < nI 0 ∨ 8 ≤ k) (h1 : ∀ a, a ≠ 318 → J a = I a) (h2 : ∀ j, j ≠ 10 → j ≠ 12 → J 318 j = I 318 j) (h3 : J 318 12 = nI q) : CeJ T tv I r J ∧ celZ r.1 = if false = true then y else nI 0 := by
  have : r = (none, q) := by
    by_cases e : k = 8
    · rw [← hcr, e, Nat.sub_self]; rfl
    · rw [← hcr, show 8 - k = (8 - (k + 1)) + 1 by omega, cel_n (num_neg hq (h.resolve_right (by omega)))]
  subst this
  exact ⟨⟨h1, h2, fun x hx => (by cases hx), fun _ => h3⟩, rfl⟩

theorem m_cellsTold {d : Nat} {K : Nat → Nat × Nat} {I : Nat → Nat → Int32} {L : Nat → Nat → Int64} {R : Nat → Nat → Option Nat} {n s : Nat} {Q : Lo → Lm → Prop} {T p : Nat} {tv : Nat → Nat} (hT : TK K R n) (hR : RfI I T tv) (hp : p ≤ T) (h10 : I 318 10 = nI p) (kk : ∀ r J, celL tv T (skp tv T p) = r → CeJ T tv I r J → Q (.inl (some (.int (celZ r.1)))) (K, J, L, R, n, s)) : Ok (d + 4) 232 [.ref 318] (K, I, L, R, n, s) Q := by
  obtain ⟨-, -, hn⟩ := id hT
  obtain ⟨rq, hr⟩ : ∃ r, celL tv T (skp tv T p) = r := ⟨_, rfl⟩
  refine Ok.enter (F := F_232) (ls := [.ref 318, lDead, lDead, lDead, lDead, lDead]) rfl rfl ?_
  refine wp_iconst (v := nI 0) (pc' := 1) rfl rfl rfl ?_
  refine wp_istore1 (pc' := 2) rfl (by first | rfl | assumption) rfl ?_
  refine wp_iconst (v := nI 0) (pc' := 3) rfl rfl rfl ?_
  refine wp_istore2 (pc' := 4) rfl (by first | rfl | assumption) rfl ?_
  refine wp_iconst (v := nI 1) (pc' := 5) rfl rfl rfl ?_
  refine wp_istore3 (pc' := 6) rfl (by first | rfl | assumption) rfl ?_
  refine wp_iconst (v := nI 1) (pc' := 7) rfl rfl rfl ?_
  refine wp_istore4 (pc' := 9) rfl (by first | rfl | assumption) rfl ?_
  have lp9 : ∀ r (k : Nat) (x : Int32) (g f : Bool) (J : Mem) (v5 : Value), k + r = 10 → CeI T tv I rq k x g f J → isL v5 = false → WP (d + 3) F_232 9 [.ref 318, .int x, .int (nI k), .int (if g = true then nI 1 else nI 0), .int (if f = true then nI 1 else nI 0), v5] [] (K, J, L, R, n, s) Q := by
    intro r; induction r with
    | zero =>
      intro k x g f J v5 hi hv0 hv1
      have h11 : ¬ f = true := fun q => absurd (hv0.2.2.1 q).1 (by omega)
      refine wp_iload4 (pc' := 11) rfl rfl ?_
      refine wp_ifeqT rfl (if_neg h11) ?_
      refine wp_iload3 (pc' := 80) rfl rfl ?_
      first | refine wp_ifeqB (pc' := 83) rfl rfl ?_ ?_ | refine wp_ifeq (pc' := 83) rfl rfl ?_ ?_
      · intro h80
        refine wp_iconst (v := nI 0) (pc' := 88) rfl rfl rfl ?_
        refine wp_iret rfl rfl rfl ?_
        have hfin := hv0.2.2.2 (Bool.eq_false_iff.mpr h11)
        first | exact Qv (kk rq J hr hfin.1) (by rw [hfin.2, if_pos h80]) rfl | exact Qv (kk rq J hr hfin.1) (by rw [hfin.2, if_neg h80]) rfl
      · intro h80
        refine wp_iload1 (pc' := 84) rfl rfl ?_
        refine wp_goto rfl ?_
        refine wp_iret rfl rfl rfl ?_
        have hfin := hv0.2.2.2 (Bool.eq_false_iff.mpr h11)
        first | exact Qv (kk rq J hr hfin.1) (by rw [hfin.2, if_pos h80]) rfl | exact Qv (kk rq J hr hfin.1) (by rw [hfin.2, if_neg h80]) rfl
    | succ r ih =>
      intro k x g f J v5 hi hv0 hv1
      refine wp_iload4 (pc' := 11) rfl rfl ?_
      first | refine wp_ifeqB (pc' := 14) rfl rfl ?_ ?_ | refine wp_ifeq (pc' := 14) rfl rfl ?_ ?_
      · intro h11
        refine wp_iload3 (pc' := 80) rfl rfl ?_
        first | refine wp_ifeqB (pc' := 83) rfl rfl ?_ ?_ | refine wp_ifeq (pc' := 83) rfl rfl ?_ ?_
        · intro h80
          refine wp_iconst (v := nI 0) (pc' := 88) rfl rfl rfl ?_
          refine wp_iret rfl rfl rfl ?_
          have hfin := hv0.2.2.2 (Bool.eq_false_iff.mpr h11)
          first | exact Qv (kk rq J hr hfin.1) (by rw [hfin.2, if_pos h80]) rfl | exact Qv (kk rq J hr hfin.1) (by rw [hfin.2, if_neg h80]) rfl
        · intro h80
          refine wp_iload1 (pc' := 84) rfl rfl ?_
          refine wp_goto rfl ?_
          refine wp_iret rfl rfl rfl ?_
          have hfin := hv0.2.2.2 (Bool.eq_false_iff.mpr h11)
          first | exact Qv (kk rq J hr hfin.1) (by rw [hfin.2, if_pos h80]) rfl | exact Qv (kk rq J hr hfin.1) (by rw [hfin.2, if_neg h80]) rfl
      · intro h11
        refine wp_aload0 (pc' := 15) rfl rfl ?_
        refine wp_iconst (v := nI 0) (pc' := 16) rfl rfl rfl ?_
        refine wp_bipush (v := nI 24) (pc' := 18) rfl rfl rfl ?_
        refine wp_callV3 (pc' := 21) rfl rfl rfl rfl rfl (by first | exact TK.k1 hT rfl | exact TK.kk hT rfl | exact TK.r hT rfl | assumption) rfl rfl ?_
        obtain ⟨hk8, p2, hp2, hJp, hcr⟩ := hv0.2.2.1 h11
        have hRJ : RfI J T tv := ⟨by rw [hv0.2.1 11 (by decide) (by decide)]; exact hR.1, hR.2.1, by rw [hv0.1 324 (by decide)]; exact hR.2.2⟩
        refine m_numberJ hT hRJ hp2 hJp (fun J2 e hE hJ2 => ?_)
        obtain ⟨q, hq⟩ : ∃ q, skp tv T p2 = q := ⟨_, rfl⟩
        have hqT := (skp_ge (tv := tv) hp2).2
        rw [hq] at hE hJ2 hqT hcr ⊢
        have hF1 : ∀ a, a ≠ 318 → J2 a = I a := fun a ha => (hJ2.1 a ha).trans (hv0.1 a ha)
        have hF2 : ∀ j, j ≠ 10 → j ≠ 12 → J2 318 j = I 318 j := fun j a1 a2 => (hJ2.2.1 j a1 a2).trans (hv0.2.1 j a1 a2)
        refine Cont.v ?_
        refine wp_istore5 (pc' := 23) rfl (by first | rfl | assumption) rfl ?_
        refine wp_iload5 (pc' := 25) rfl rfl ?_
        refine wp_iflt (pc' := 28) rfl rfl ?_ ?_
        · intro h25
          refine wp_iconst (v := nI 0) (pc' := 39) rfl rfl rfl ?_
          refine wp_istore3 (pc' := 40) rfl (by first | rfl | assumption) rfl ?_
          refine wp_iload1 (pc' := 41) rfl rfl ?_
          refine wp_iload3 (pc' := 42) rfl rfl ?_
          refine wp_ifeqT rfl rfl ?_
          refine wp_iconst (v := nI 0) (pc' := 53) rfl rfl rfl ?_
          refine wp_ior (pc' := 54) rfl rfl ?_
          refine wp_istore1 (pc' := 55) rfl (by first | rfl | assumption) rfl ?_
          first | refine wp_iinc2 (w := nI 1) (pc' := 58) rfl rfl rfl (by with_reducible exact nI_add _ _) rfl ?_ | refine wp_iinc2 (w := nI 1) (pc' := 58) rfl rfl rfl rfl rfl ?_
          refine wp_iload3 (pc' := 59) rfl rfl ?_
          refine wp_ifeqT rfl rfl ?_
          refine wp_iconst (v := nI 0) (pc' := 74) rfl rfl rfl ?_
          refine wp_istore4 (pc' := 76) rfl (by first | rfl | assumption) rfl ?_
          refine wp_goto rfl ?_
          first
            | exact WP.cg (ih (k + 1) _ true true _ _ (by omega) ⟨hG1, hG2, fun _ => ⟨by omega, z, hzz.2 ▸ (skp_ge hzz.1).2, hJ3.2.2.1, by rw [← hzz.2, skp_sk hzz.1, hzz.2]; rw [if_pos h66] at hcr; exact hcr⟩, fun q => absurd q (by decide)⟩ (by first | rfl | assumption)) (lC1 (lI1 rfl (lI1 rfl (lI1 rfl (lI1 rfl (lC1 rfl)))))) rfl rfl
            | exact WP.cg (ih (k + 1) _ true false _ _ (by omega) ⟨hG1, hG2, fun q => absurd q (by decide), fun _ => by rw [if_neg h66] at hcr; rw [← hcr]; exact ⟨⟨hG1, hG2, fun _ _ => ⟨z, hzT, hJ3.2.2.1, by rw [← hzz.2, skp_sk hzz.1]⟩, fun q => (by cases q)⟩, rfl⟩⟩ (by first | rfl | assumption)) (lC1 (lI1 rfl (lI1 rfl (lI1 rfl (lI1 rfl (lC1 rfl)))))) rfl rfl
            | exact WP.cg (ih (k + 1) _ false false _ _ (by omega) ⟨hF1, hF2, fun q => absurd q (by decide), fun _ => cel_bad hcr hk8 hqT (Or.inl h25) hF1 hF2 hJ2.2.2.2⟩ (by first | rfl | assumption)) (lC1 (lI1 rfl (lI1 rfl (lI1 rfl (lI1 rfl (lC1 rfl)))))) rfl rfl
            | exact WP.cg (ih (k + 1) _ false false _ _ (by omega) ⟨hF1, hF2, fun q => absurd q (by decide), fun _ => cel_bad hcr hk8 hqT (Or.inr (ge_nI h31 (by omega))) hF1 hF2 hJ2.2.2.2⟩ (by first | rfl | assumption)) (lC1 (lI1 rfl (lI1 rfl (lI1 rfl (lI1 rfl (lC1 rfl)))))) rfl rfl
        · intro h25
          refine wp_iload2 (pc' := 29) rfl rfl ?_
          refine wp_bipush (v := nI 8) (pc' := 31) rfl rfl rfl ?_
          refine wp_icmpge (pc' := 34) rfl rfl ?_ ?_
          · intro h31
            refine wp_iconst (v := nI 0) (pc' := 39) rfl rfl rfl ?_
            refine wp_istore3 (pc' := 40) rfl (by first | rfl | assumption) rfl ?_
            refine wp_iload1 (pc' := 41) rfl rfl ?_
            refine wp_iload3 (pc' := 42) rfl rfl ?_
            refine wp_ifeqT rfl rfl ?_
            refine wp_iconst (v := nI 0) (pc' := 53) rfl rfl rfl ?_
            refine wp_ior (pc' := 54) rfl rfl ?_
            refine wp_istore1 (pc' := 55) rfl (by first | rfl | assumption) rfl ?_
            first | refine wp_iinc2 (w := nI 1) (pc' := 58) rfl rfl rfl (by with_reducible exact nI_add _ _) rfl ?_ | refine wp_iinc2 (w := nI 1) (pc' := 58) rfl rfl rfl rfl rfl ?_
            refine wp_iload3 (pc' := 59) rfl rfl ?_
            refine wp_ifeqT rfl rfl ?_
            refine wp_iconst (v := nI 0) (pc' := 74) rfl rfl rfl ?_
            refine wp_istore4 (pc' := 76) rfl (by first | rfl | assumption) rfl ?_
            refine wp_goto rfl ?_
            first
              | exact WP.cg (ih (k + 1) _ true true _ _ (by omega) ⟨hG1, hG2, fun _ => ⟨by omega, z, hzz.2 ▸ (skp_ge hzz.1).2, hJ3.2.2.1, by rw [← hzz.2, skp_sk hzz.1, hzz.2]; rw [if_pos h66] at hcr; exact hcr⟩, fun q => absurd q (by decide)⟩ (by first | rfl | assumption)) (lC1 (lI1 rfl (lI1 rfl (lI1 rfl (lI1 rfl (lC1 rfl)))))) rfl rfl
              | exact WP.cg (ih (k + 1) _ true false _ _ (by omega) ⟨hG1, hG2, fun q => absurd q (by decide), fun _ => by rw [if_neg h66] at hcr; rw [← hcr]; exact ⟨⟨hG1, hG2, fun _ _ => ⟨z, hzT, hJ3.2.2.1, by rw [← hzz.2, skp_sk hzz.1]⟩, fun q => (by cases q)⟩, rfl⟩⟩ (by first | rfl | assumption)) (lC1 (lI1 rfl (lI1 rfl (lI1 rfl (lI1 rfl (lC1 rfl)))))) rfl rfl
              | exact WP.cg (ih (k + 1) _ false false _ _ (by omega) ⟨hF1, hF2, fun q => absurd q (by decide), fun _ => cel_bad hcr hk8 hqT (Or.inl h25) hF1 hF2 hJ2.2.2.2⟩ (by first | rfl | assumption)) (lC1 (lI1 rfl (lI1 rfl (lI1 rfl (lI1 rfl (lC1 rfl)))))) rfl rfl
              | exact WP.cg (ih (k + 1) _ false false _ _ (by omega) ⟨hF1, hF2, fun q => absurd q (by decide), fun _ => cel_bad hcr hk8 hqT (Or.inr (ge_nI h31 (by omega))) hF1 hF2 hJ2.2.2.2⟩ (by first | rfl | assumption)) (lC1 (lI1 rfl (lI1 rfl (lI1 rfl (lI1 rfl (lC1 rfl)))))) rfl rfl
          · intro h31
            refine wp_iconst (v := nI 1) (pc' := 35) rfl rfl rfl ?_
            refine wp_goto rfl ?_
            refine wp_istore3 (pc' := 40) rfl (by first | rfl | assumption) rfl ?_
            refine wp_iload1 (pc' := 41) rfl rfl ?_
            refine wp_iload3 (pc' := 42) rfl rfl ?_
            refine wp_ifeqF (pc' := 45) rfl (by decide) rfl ?_
            refine wp_iconst (v := nI 1) (pc' := 46) rfl rfl rfl ?_
            refine wp_iload5 (pc' := 48) rfl rfl ?_
            refine wp_ishl (pc' := 49) rfl rfl ?_
            refine wp_goto rfl ?_
            refine wp_ior (pc' := 54) rfl rfl ?_
            refine wp_istore1 (pc' := 55) rfl (by first | rfl | assumption) rfl ?_
            first | refine wp_iinc2 (w := nI 1) (pc' := 58) rfl rfl rfl (by with_reducible exact nI_add _ _) rfl ?_ | refine wp_iinc2 (w := nI 1) (pc' := 58) rfl rfl rfl rfl rfl ?_
            refine wp_iload3 (pc' := 59) rfl rfl ?_
            refine wp_ifeqF (pc' := 62) rfl (by decide) rfl ?_
            refine wp_aload0 (pc' := 63) rfl rfl ?_
            refine wp_callV1 (pc' := 66) rfl rfl rfl rfl rfl (by first | exact TK.k1 hT rfl | exact TK.kk hT rfl | exact TK.r hT rfl | assumption) rfl rfl ?_
            obtain ⟨v, z, hN, hv, hv1, hv24, hqz, hzT⟩ := num_pos hqT h25
            have hzz := nu_ok hE hN
            have hRJ2 := tk_rd hJ2 hRJ
            refine m_isNumNextJ hT hRJ2 hzz.1 hJ2.2.2.1 (fun J3 hJ3 => ?_)
            rw [hzz.2] at hJ3 ⊢
            have hk9 := nI_lt_inv (by omega) (by omega) h31
            have hG1 : ∀ a, a ≠ 318 → J3 a = I a := fun a ha => (hJ3.1 a ha).trans (hF1 a ha)
            have hG2 : ∀ j, j ≠ 10 → j ≠ 12 → J3 318 j = I 318 j := fun j a1 a2 => (hJ3.2.1 j a1 a2).trans (hF2 j a1 a2)
            rw [show 8 - k = (8 - (k + 1)) + 1 by omega, cel_s hN] at hcr
            rw [hN]
            refine Cont.v ?_
            first | refine wp_ifeqB (pc' := 69) rfl rfl ?_ ?_ | refine wp_ifeq (pc' := 69) rfl rfl ?_ ?_
            · intro h66
              refine wp_iconst (v := nI 0) (pc' := 74) rfl rfl rfl ?_
              refine wp_istore4 (pc' := 76) rfl (by first | rfl | assumption) rfl ?_
              refine wp_goto rfl ?_
              first
                | exact WP.cg (ih (k + 1) _ true true _ _ (by omega) ⟨hG1, hG2, fun _ => ⟨by omega, z, hzz.2 ▸ (skp_ge hzz.1).2, hJ3.2.2.1, by rw [← hzz.2, skp_sk hzz.1, hzz.2]; rw [if_pos h66] at hcr; exact hcr⟩, fun q => absurd q (by decide)⟩ (by first | rfl | assumption)) (lC1 (lI1 rfl (lI1 rfl (lI1 rfl (lI1 rfl (lC1 rfl)))))) rfl rfl
                | exact WP.cg (ih (k + 1) _ true false _ _ (by omega) ⟨hG1, hG2, fun q => absurd q (by decide), fun _ => by rw [if_neg h66] at hcr; rw [← hcr]; exact ⟨⟨hG1, hG2, fun _ _ => ⟨z, hzT, hJ3.2.2.1, by rw [← hzz.2, skp_sk hzz.1]⟩, fun q => (by cases q)⟩, rfl⟩⟩ (by first | rfl | assumption)) (lC1 (lI1 rfl (lI1 rfl (lI1 rfl (lI1 rfl (lC1 rfl)))))) rfl rfl
                | exact WP.cg (ih (k + 1) _ false false _ _ (by omega) ⟨hF1, hF2, fun q => absurd q (by decide), fun _ => cel_bad hcr hk8 hqT (Or.inl h25) hF1 hF2 hJ2.2.2.2⟩ (by first | rfl | assumption)) (lC1 (lI1 rfl (lI1 rfl (lI1 rfl (lI1 rfl (lC1 rfl)))))) rfl rfl
                | exact WP.cg (ih (k + 1) _ false false _ _ (by omega) ⟨hF1, hF2, fun q => absurd q (by decide), fun _ => cel_bad hcr hk8 hqT (Or.inr (ge_nI h31 (by omega))) hF1 hF2 hJ2.2.2.2⟩ (by first | rfl | assumption)) (lC1 (lI1 rfl (lI1 rfl (lI1 rfl (lI1 rfl (lC1 rfl)))))) rfl rfl
            · intro h66
              refine wp_iconst (v := nI 1) (pc' := 70) rfl rfl rfl ?_
              refine wp_goto rfl ?_
              refine wp_istore4 (pc' := 76) rfl (by first | rfl | assumption) rfl ?_
              refine wp_goto rfl ?_
              first
                | exact WP.cg (ih (k + 1) _ true true _ _ (by omega) ⟨hG1, hG2, fun _ => ⟨by omega, z, hzz.2 ▸ (skp_ge hzz.1).2, hJ3.2.2.1, by rw [← hzz.2, skp_sk hzz.1, hzz.2]; rw [if_pos h66] at hcr; exact hcr⟩, fun q => absurd q (by decide)⟩ (by first | rfl | assumption)) (lC1 (lI1 rfl (lI1 rfl (lI1 rfl (lI1 rfl (lC1 rfl)))))) rfl rfl
                | exact WP.cg (ih (k + 1) _ true false _ _ (by omega) ⟨hG1, hG2, fun q => absurd q (by decide), fun _ => by rw [if_neg h66] at hcr; rw [← hcr]; exact ⟨⟨hG1, hG2, fun _ _ => ⟨z, hzT, hJ3.2.2.1, by rw [← hzz.2, skp_sk hzz.1]⟩, fun q => (by cases q)⟩, rfl⟩⟩ (by first | rfl | assumption)) (lC1 (lI1 rfl (lI1 rfl (lI1 rfl (lI1 rfl (lC1 rfl)))))) rfl rfl
                | exact WP.cg (ih (k + 1) _ false false _ _ (by omega) ⟨hF1, hF2, fun q => absurd q (by decide), fun _ => cel_bad hcr hk8 hqT (Or.inl h25) hF1 hF2 hJ2.2.2.2⟩ (by first | rfl | assumption)) (lC1 (lI1 rfl (lI1 rfl (lI1 rfl (lI1 rfl (lC1 rfl)))))) rfl rfl
                | exact WP.cg (ih (k + 1) _ false false _ _ (by omega) ⟨hF1, hF2, fun q => absurd q (by decide), fun _ => cel_bad hcr hk8 hqT (Or.inr (ge_nI h31 (by omega))) hF1 hF2 hJ2.2.2.2⟩ (by first | rfl | assumption)) (lC1 (lI1 rfl (lI1 rfl (lI1 rfl (lI1 rfl (lC1 rfl)))))) rfl rfl
  exact WP.cg (lp9 10 0 (nI 0) true true I _ (by omega) ⟨fun _ _ => rfl, fun _ _ _ => rfl, fun _ => ⟨by decide, p, hp, h10, hr⟩, fun q => absurd q (by decide)⟩ (by first | rfl | assumption)) (lC1 (lI1 (by rfl) (lI1 (by rfl) (lI1 (by rfl) (lI1 (by rfl) (lC1 rfl)))))) rfl (by rfl)
