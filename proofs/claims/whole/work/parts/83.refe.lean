/-! THE REFERENCE: the tape is fed, one cell's cost -/
def fivR (v : Nat → Int32) (a b c e f : Int32) : Nat → Int32 := up1 (up1 (up1 (up1 (up1 v 0 a) 1 b) 2 c) 3 e) 4 f
def fedB (f : Nat → Int32) (k : Nat) : Int32 := (jshr (f (k / 4)) (nI (24 - 8 * (k % 4)))).toInt8.toInt32.toInt8.toInt32
def lesN (a : Nat → Nat) (u c i : Nat) : Nat := forN (fun q x => if hasP (besB c) q then min x (a q + u) else x) (a c) i
theorem lesN_s {a : Nat → Nat} {u c i : Nat} : lesN a u c (i + 1) = if hasP (besB c) i then min (lesN a u c i) (a i + u) else lesN a u c i := rfl
theorem lesN_le {a : Nat → Nat} {u c : Nat} : ∀ i, lesN a u c i ≤ a c
  | 0 => Nat.le_refl _
  | i + 1 => by
    have := lesN_le (a := a) (u := u) (c := c) i
    rw [lesN_s]
    split
    · exact Nat.le_trans (Nat.min_le_left _ _) this
    · exact this
theorem lesN_by {a : Nat → Nat} {u c q : Nat} (h : hasP (besB c) q) : ∀ i, q < i → lesN a u c i ≤ a q + u
  | 0 => fun hq => absurd hq (Nat.not_lt_zero q)
  | i + 1 => fun hq => by
    rw [lesN_s]
    by_cases e : q = i
    · subst e; rw [if_pos h]; exact Nat.min_le_right _ _
    · have := lesN_by (a := a) (u := u) h i (by omega)
      split
      · exact Nat.le_trans (Nat.min_le_left _ _) this
      · exact this
theorem lesN_ge {a g : Nat → Nat} {u c : Nat} (h0 : g c ≤ a c) (h1 : ∀ q, q < 25 → hasP (besB c) q → g c ≤ a q + u) : ∀ i, i ≤ 25 → g c ≤ lesN a u c i
  | 0 => fun _ => h0
  | i + 1 => fun hi => by
    have := lesN_ge h0 h1 i (by omega)
    rw [lesN_s]
    split
    · rename_i hq
      exact Nat.le_min.mpr ⟨this, h1 i (by omega) hq⟩
    · exact this
/-- a row of costs, as numbers -/
def CoR (v : Nat → Int32) (a : Nat → Nat) : Prop := ∀ q, q < 25 → v q = nI (a q) ∧ a q ≤ 100000000

theorem m_isLessBy {d : Nat} {K : Nat → Nat × Nat} {I : Nat → Nat → Int32} {L : Nat → Nat → Int64} {R : Nat → Nat → Option Nat} {n s : Nat} {Q : Lo → Lm → Prop} {a : Nat → Nat} {u c : Nat} (hT : TK K R n) (hc : c < 25) (hv : CoR (I 328) a) (hu : u ≤ 100000000) (kk : Q (.inl (some (.int (if lesN a u c 25 < a c then nI 1 else nI 0)))) (K, up2 I 328 c (nI (lesN a u c 25)), L, R, n, s)) : Ok (d + 2) 272 [.ref 318, .int (nI c), .int (nI u)] (K, I, L, R, n, s) Q := by
  obtain ⟨-, -, hn⟩ := id hT
  refine Ok.enter (F := F_272) (ls := [.ref 318, .int (nI c), .int (nI u), lDead, lDead]) rfl rfl ?_
  refine wp_aload0 (pc' := 1) rfl rfl ?_
  refine wp_getRF (pc' := 4) rfl rfl (by first | exact TK.k1 hT rfl | exact TK.kk hT rfl | exact TK.r hT rfl | assumption) (by first | exact TK.k1 hT rfl | exact TK.kk hT rfl | exact TK.r hT rfl | assumption) rfl ?_
  refine wp_iload1 (pc' := 5) rfl rfl ?_
  refine wp_iald _ (pc' := 6) rfl (by first | exact TK.k1 hT rfl | exact TK.kk hT rfl | exact TK.r hT rfl | assumption) (by with_reducible rfl) (by omega) (by first | decide | assumption | omega) rfl ?_
  rw [(hv c hc).1]
  refine wp_istore3 (pc' := 7) rfl (by first | rfl | assumption) rfl ?_
  refine wp_iconst (v := nI 0) (pc' := 8) rfl rfl rfl ?_
  refine wp_istore4 (pc' := 10) rfl (by first | rfl | assumption) rfl ?_
  have lp10 : ∀ r (i : Nat), i + r = 25 → WP (d + 1) F_272 10 [.ref 318, .int (nI c), .int (nI u), .int (nI (lesN a u c i)), .int (nI i)] [] (K, I, L, R, n, s) Q := by
    intro r; induction r with
    | zero =>
      intro i hi 
      have hi2 : i = 25 := by omega
      subst hi2
      refine wp_iload4 (pc' := 12) rfl rfl ?_
      refine wp_bipush (v := nI 25) (pc' := 14) rfl rfl rfl ?_
      refine wp_icmpgeT rfl (nI_nlt (by omega) (by omega)) ?_
      refine wp_iload3 (pc' := 50) rfl rfl ?_
      refine wp_aload0 (pc' := 51) rfl rfl ?_
      refine wp_getRF (pc' := 54) rfl rfl (by first | exact TK.k1 hT rfl | exact TK.kk hT rfl | exact TK.r hT rfl | assumption) (by first | exact TK.k1 hT rfl | exact TK.kk hT rfl | exact TK.r hT rfl | assumption) rfl ?_
      refine wp_iload1 (pc' := 55) rfl rfl ?_
      refine wp_iald _ (pc' := 56) rfl (by first | exact TK.k1 hT rfl | exact TK.kk hT rfl | exact TK.r hT rfl | assumption) (by with_reducible rfl) (by omega) (by first | decide | assumption | omega) rfl ?_
      refine wp_icmpge (pc' := 59) rfl rfl ?_ ?_
      · intro h56
        refine wp_iconst (v := nI 0) (pc' := 64) rfl rfl rfl ?_
        refine wp_istore4 (pc' := 66) rfl (by first | rfl | assumption) rfl ?_
        refine wp_aload0 (pc' := 67) rfl rfl ?_
        refine wp_getRF (pc' := 70) rfl rfl (by first | exact TK.k1 hT rfl | exact TK.kk hT rfl | exact TK.r hT rfl | assumption) (by first | exact TK.k1 hT rfl | exact TK.kk hT rfl | exact TK.r hT rfl | assumption) rfl ?_
        refine wp_iload1 (pc' := 71) rfl rfl ?_
        refine wp_iload3 (pc' := 72) rfl rfl ?_
        refine wp_iast _ (pc' := 73) rfl (by first | exact TK.k1 hT rfl | exact TK.kk hT rfl | exact TK.r hT rfl | assumption) (by omega) (by with_reducible rfl) (by omega) (by first | decide | assumption | omega) rfl ?_
        refine wp_iload4 (pc' := 75) rfl rfl ?_
        refine wp_iret rfl rfl (by first | rfl | exact nar_if) ?_
        first | exact Qv kk (by rw [if_pos (nI_lt_inv (by have := lesN_le (a := a) (u := u) (c := c) 25; have := (hv c hc).2; omega) (by have := (hv c hc).2; omega) (by rw [← (hv c hc).1]; exact h56))]) rfl | exact Qv kk (by rw [if_neg (fun e => h56 (by rw [(hv c hc).1]; exact nI_lt e (by have := (hv c hc).2; omega)))]) rfl
      · intro h56
        refine wp_iconst (v := nI 1) (pc' := 60) rfl rfl rfl ?_
        refine wp_goto rfl ?_
        refine wp_istore4 (pc' := 66) rfl (by first | rfl | assumption) rfl ?_
        refine wp_aload0 (pc' := 67) rfl rfl ?_
        refine wp_getRF (pc' := 70) rfl rfl (by first | exact TK.k1 hT rfl | exact TK.kk hT rfl | exact TK.r hT rfl | assumption) (by first | exact TK.k1 hT rfl | exact TK.kk hT rfl | exact TK.r hT rfl | assumption) rfl ?_
        refine wp_iload1 (pc' := 71) rfl rfl ?_
        refine wp_iload3 (pc' := 72) rfl rfl ?_
        refine wp_iast _ (pc' := 73) rfl (by first | exact TK.k1 hT rfl | exact TK.kk hT rfl | exact TK.r hT rfl | assumption) (by omega) (by with_reducible rfl) (by omega) (by first | decide | assumption | omega) rfl ?_
        refine wp_iload4 (pc' := 75) rfl rfl ?_
        refine wp_iret rfl rfl (by first | rfl | exact nar_if) ?_
        first | exact Qv kk (by rw [if_pos (nI_lt_inv (by have := lesN_le (a := a) (u := u) (c := c) 25; have := (hv c hc).2; omega) (by have := (hv c hc).2; omega) (by rw [← (hv c hc).1]; exact h56))]) rfl | exact Qv kk (by rw [if_neg (fun e => h56 (by rw [(hv c hc).1]; exact nI_lt e (by have := (hv c hc).2; omega)))]) rfl
    | succ r ih =>
      intro i hi 
      have hlt : i < 25 := by omega
      have hva := hv i (by omega)
      have hle := lesN_le (a := a) (u := u) (c := c) i
      have hca := (hv c hc).2
      refine wp_iload4 (pc' := 12) rfl rfl ?_
      refine wp_bipush (v := nI 25) (pc' := 14) rfl rfl rfl ?_
      refine wp_icmpgeF (pc' := 17) rfl (nI_lt (by omega) (by omega)) rfl ?_
      refine wp_iload1 (pc' := 18) rfl rfl ?_
      refine wp_callS1 (pc' := 21) rfl rfl rfl rfl rfl rfl ?_
      refine m_beside hc ?_
      refine Cont.v ?_
      refine wp_iload4 (pc' := 23) rfl rfl ?_
      refine wp_callS2 (pc' := 26) rfl rfl rfl rfl rfl rfl ?_
      refine m_has ?_
      refine Cont.v ?_
      first | refine wp_ifeqB (pc' := 29) rfl rfl ?_ ?_ | refine wp_ifeq (pc' := 29) rfl rfl ?_ ?_
      · intro h26
        first | refine wp_iinc4 (w := nI 1) (pc' := 46) rfl rfl rfl (by with_reducible exact nI_add _ _) rfl ?_ | refine wp_iinc4 (w := nI 1) (pc' := 46) rfl rfl rfl rfl rfl ?_
        refine wp_goto rfl ?_
        exact WP.cg (ih (i + 1) (by omega)) (lC1 (lI1 (by first | with_reducible rfl | (rw [lesN_s, if_pos h26, hva.1, nI_add, nI_min (by omega) (by omega)]; done) | (rw [lesN_s, if_neg h26]; done)) (lI1 (by first | with_reducible rfl | (rw [lesN_s, if_pos h26, hva.1, nI_add, nI_min (by omega) (by omega)]; done) | (rw [lesN_s, if_neg h26]; done)) (lI1 (by first | with_reducible rfl | (rw [lesN_s, if_pos h26, hva.1, nI_add, nI_min (by omega) (by omega)]; done) | (rw [lesN_s, if_neg h26]; done)) (lI1 (by first | with_reducible rfl | (rw [lesN_s, if_pos h26, hva.1, nI_add, nI_min (by omega) (by omega)]; done) | (rw [lesN_s, if_neg h26]; done)) rfl))))) rfl (by rfl)
      · intro h26
        refine wp_iload3 (pc' := 30) rfl rfl ?_
        refine wp_aload0 (pc' := 31) rfl rfl ?_
        refine wp_getRF (pc' := 34) rfl rfl (by first | exact TK.k1 hT rfl | exact TK.kk hT rfl | exact TK.r hT rfl | assumption) (by first | exact TK.k1 hT rfl | exact TK.kk hT rfl | exact TK.r hT rfl | assumption) rfl ?_
        refine wp_iload4 (pc' := 36) rfl rfl ?_
        refine wp_iald _ (pc' := 37) rfl (by first | exact TK.k1 hT rfl | exact TK.kk hT rfl | exact TK.r hT rfl | assumption) (by with_reducible rfl) (by omega) (by first | decide | assumption | omega) rfl ?_
        refine wp_iload2 (pc' := 38) rfl rfl ?_
        first | refine wp_iaddN (pc' := 39) rfl (by with_reducible rfl) (by with_reducible rfl) rfl ?_ | refine wp_iadd (pc' := 39) rfl rfl ?_
        refine wp_min (pc' := 42) rfl rfl rfl rfl ?_
        refine wp_istore3 (pc' := 43) rfl (by first | rfl | assumption) rfl ?_
        first | refine wp_iinc4 (w := nI 1) (pc' := 46) rfl rfl rfl (by with_reducible exact nI_add _ _) rfl ?_ | refine wp_iinc4 (w := nI 1) (pc' := 46) rfl rfl rfl rfl rfl ?_
        refine wp_goto rfl ?_
        exact WP.cg (ih (i + 1) (by omega)) (lC1 (lI1 (by first | with_reducible rfl | (rw [lesN_s, if_pos h26, hva.1, nI_add, nI_min (by omega) (by omega)]; done) | (rw [lesN_s, if_neg h26]; done)) (lI1 (by first | with_reducible rfl | (rw [lesN_s, if_pos h26, hva.1, nI_add, nI_min (by omega) (by omega)]; done) | (rw [lesN_s, if_neg h26]; done)) (lI1 (by first | with_reducible rfl | (rw [lesN_s, if_pos h26, hva.1, nI_add, nI_min (by omega) (by omega)]; done) | (rw [lesN_s, if_neg h26]; done)) (lI1 (by first | with_reducible rfl | (rw [lesN_s, if_pos h26, hva.1, nI_add, nI_min (by omega) (by omega)]; done) | (rw [lesN_s, if_neg h26]; done)) rfl))))) rfl (by rfl)
  exact WP.cg (lp10 (25 - (0)) (0) (by omega)) (lC1 (lI1 (by rfl) (lI1 (by rfl) (lI1 (by rfl) (lI1 (by rfl) rfl))))) rfl (by rfl)
theorem m_feed {d : Nat} {K : Nat → Nat × Nat} {I : Nat → Nat → Int32} {L : Nat → Nat → Int64} {R : Nat → Nat → Option Nat} {n s : Nat} {Q : Lo → Lm → Prop} {T : Nat} {xa xb xc xd xe : Int32} (hT : TK K R n) (hTp : I 318 9 = nI T) (hT4 : T + 20 ≤ 400) (kk : ∀ N, N = upr (up2 I 318 0 (nI 0)) 325 (fivR ((up2 I 318 0 (nI 0)) 325) xa xb xc xd xe) → Q (.inl (some (.int (nI (T + 20))))) (K, up2 (upr N 324 (cpyO T 20 (fedB (N 325)) (N 324))) 318 9 (nI (T + 20)), L, R, n, s)) : Ok (d + 1) 216 [.ref 318, .int xa, .int xb, .int xc, .int xd, .int xe] (K, I, L, R, n, s) Q := by
  obtain ⟨-, -, hn⟩ := id hT
  refine Ok.enter (F := F_216) (ls := [.ref 318, .int xa, .int xb, .int xc, .int xd, .int xe, lDead]) rfl rfl ?_
  refine wp_aload0 (pc' := 1) rfl rfl ?_
  refine wp_iconst (v := nI 0) (pc' := 2) rfl rfl rfl ?_
  refine wp_putI (pc' := 5) rfl rfl (by first | exact TK.k1 hT rfl | exact TK.kk hT rfl | exact TK.r hT rfl | assumption) (by omega) rfl ?_
  obtain ⟨M, hM⟩ : ∃ M, M = up2 I 318 0 (nI 0) := ⟨_, rfl⟩
  have hM9 : M 319 = I 319 := by rw [hM]; exact up2_row (by decide)
  have hM7 : M 318 7 = I 318 7 := by rw [hM, up2_same, if_neg (by decide)]
  rw [← hM]
  have hM9t : M 318 9 = nI T := by rw [hM, up2_same, if_neg (by decide)]; exact hTp
  refine wp_aload0 (pc' := 6) rfl rfl ?_
  refine wp_getI (pc' := 9) rfl rfl (by first | exact TK.k1 hT rfl | exact TK.kk hT rfl | exact TK.r hT rfl | assumption) rfl ?_
  rw [hM9t]
  refine wp_bipush (v := nI 20) (pc' := 11) rfl rfl rfl ?_
  first | refine wp_iaddN (pc' := 12) rfl (by with_reducible rfl) (by with_reducible rfl) rfl ?_ | refine wp_iadd (pc' := 12) rfl rfl ?_
  refine wp_sipush (v := nI 400) (pc' := 15) rfl rfl rfl ?_
  refine wp_icmpleT rfl (nI_nlt (by omega) (by omega)) ?_
  refine wp_aload0 (pc' := 21) rfl rfl ?_
  refine wp_getRF (pc' := 24) rfl rfl (by first | exact TK.k1 hT rfl | exact TK.kk hT rfl | exact TK.r hT rfl | assumption) (by first | exact TK.k1 hT rfl | exact TK.kk hT rfl | exact TK.r hT rfl | assumption) rfl ?_
  refine wp_iconst (v := nI 0) (pc' := 25) rfl rfl rfl ?_
  refine wp_iload1 (pc' := 26) rfl rfl ?_
  refine wp_iast _ (pc' := 27) rfl (by first | exact TK.k1 hT rfl | exact TK.kk hT rfl | exact TK.r hT rfl | assumption) (by omega) (by with_reducible rfl) (by omega) (by first | decide | assumption | omega) rfl ?_
  refine wp_aload0 (pc' := 28) rfl rfl ?_
  refine wp_getRF (pc' := 31) rfl rfl (by first | exact TK.k1 hT rfl | exact TK.kk hT rfl | exact TK.r hT rfl | assumption) (by first | exact TK.k1 hT rfl | exact TK.kk hT rfl | exact TK.r hT rfl | assumption) rfl ?_
  refine wp_iconst (v := nI 1) (pc' := 32) rfl rfl rfl ?_
  refine wp_iload2 (pc' := 33) rfl rfl ?_
  refine wp_iast _ (pc' := 34) rfl (by first | exact TK.k1 hT rfl | exact TK.kk hT rfl | exact TK.r hT rfl | assumption) (by omega) (by with_reducible rfl) (by omega) (by first | decide | assumption | omega) rfl ?_
  refine wp_aload0 (pc' := 35) rfl rfl ?_
  refine wp_getRF (pc' := 38) rfl rfl (by first | exact TK.k1 hT rfl | exact TK.kk hT rfl | exact TK.r hT rfl | assumption) (by first | exact TK.k1 hT rfl | exact TK.kk hT rfl | exact TK.r hT rfl | assumption) rfl ?_
  refine wp_iconst (v := nI 2) (pc' := 39) rfl rfl rfl ?_
  refine wp_iload3 (pc' := 40) rfl rfl ?_
  refine wp_iast _ (pc' := 41) rfl (by first | exact TK.k1 hT rfl | exact TK.kk hT rfl | exact TK.r hT rfl | assumption) (by omega) (by with_reducible rfl) (by omega) (by first | decide | assumption | omega) rfl ?_
  refine wp_aload0 (pc' := 42) rfl rfl ?_
  refine wp_getRF (pc' := 45) rfl rfl (by first | exact TK.k1 hT rfl | exact TK.kk hT rfl | exact TK.r hT rfl | assumption) (by first | exact TK.k1 hT rfl | exact TK.kk hT rfl | exact TK.r hT rfl | assumption) rfl ?_
  refine wp_iconst (v := nI 3) (pc' := 46) rfl rfl rfl ?_
  refine wp_iload4 (pc' := 48) rfl rfl ?_
  refine wp_iast _ (pc' := 49) rfl (by first | exact TK.k1 hT rfl | exact TK.kk hT rfl | exact TK.r hT rfl | assumption) (by omega) (by with_reducible rfl) (by omega) (by first | decide | assumption | omega) rfl ?_
  refine wp_aload0 (pc' := 50) rfl rfl ?_
  refine wp_getRF (pc' := 53) rfl rfl (by first | exact TK.k1 hT rfl | exact TK.kk hT rfl | exact TK.r hT rfl | assumption) (by first | exact TK.k1 hT rfl | exact TK.kk hT rfl | exact TK.r hT rfl | assumption) rfl ?_
  refine wp_iconst (v := nI 4) (pc' := 54) rfl rfl rfl ?_
  refine wp_iload5 (pc' := 56) rfl rfl ?_
  refine wp_iast _ (pc' := 57) rfl (by first | exact TK.k1 hT rfl | exact TK.kk hT rfl | exact TK.r hT rfl | assumption) (by omega) (by with_reducible rfl) (by omega) (by first | decide | assumption | omega) rfl ?_
  simp only [up2_as, upr_upr, upr_same]
  obtain ⟨N, hN⟩ : ∃ N, N = upr M 325 (fivR (M 325) xa xb xc xd xe) := ⟨_, rfl⟩
  change WP _ _ _ _ _ (K, upr M 325 (fivR (M 325) xa xb xc xd xe), L, R, n, s) Q
  rw [← hN]
  have hN9 : N 318 9 = nI T := by rw [hN, upr_ne (by decide)]; exact hM9t
  refine wp_iconst (v := nI 0) (pc' := 58) rfl rfl rfl ?_
  refine wp_istore6 (pc' := 60) rfl (by first | rfl | assumption) rfl ?_
  have lp60 : ∀ r (i : Nat), i + r = 20 → WP d F_216 60 [.ref 318, .int xa, .int xb, .int xc, .int xd, .int xe, .int (nI i)] [] (K, upr N 324 (cpyO T i (fedB (N 325)) (N 324)), L, R, n, s) Q := by
    intro r; induction r with
    | zero =>
      intro i hi 
      have hi2 : i = 20 := by omega
      subst hi2
      refine wp_iload6 (pc' := 62) rfl rfl ?_
      refine wp_bipush (v := nI 20) (pc' := 64) rfl rfl rfl ?_
      refine wp_icmpgeT rfl (nI_nlt (by omega) (by omega)) ?_
      refine wp_aload0 (pc' := 107) rfl rfl ?_
      refine wp_dup (pc' := 108) rfl rfl rfl ?_
      refine wp_getI (pc' := 111) rfl rfl (by first | exact TK.k1 hT rfl | exact TK.kk hT rfl | exact TK.r hT rfl | assumption) rfl ?_
      rw [upr_ne (show (318 : Nat) ≠ 324 by decide), hN9]
      refine wp_bipush (v := nI 20) (pc' := 113) rfl rfl rfl ?_
      first | refine wp_iaddN (pc' := 114) rfl (by with_reducible rfl) (by with_reducible rfl) rfl ?_ | refine wp_iadd (pc' := 114) rfl rfl ?_
      refine wp_putI (pc' := 117) rfl rfl (by first | exact TK.k1 hT rfl | exact TK.kk hT rfl | exact TK.r hT rfl | assumption) (by omega) rfl ?_
      refine wp_aload0 (pc' := 118) rfl rfl ?_
      refine wp_getI (pc' := 121) rfl rfl (by first | exact TK.k1 hT rfl | exact TK.kk hT rfl | exact TK.r hT rfl | assumption) rfl ?_
      rw [up2_hit]
      refine wp_iret rfl rfl rfl ?_
      rw [hM] at hN
      exact kk N hN
    | succ r ih =>
      intro i hi 
      have hlt : i < 20 := by omega
      refine wp_iload6 (pc' := 62) rfl rfl ?_
      refine wp_bipush (v := nI 20) (pc' := 64) rfl rfl rfl ?_
      refine wp_icmpgeF (pc' := 67) rfl (nI_lt (by omega) (by omega)) rfl ?_
      refine wp_aload0 (pc' := 68) rfl rfl ?_
      refine wp_getRF (pc' := 71) rfl rfl (by first | exact TK.k1 hT rfl | exact TK.kk hT rfl | exact TK.r hT rfl | assumption) (by first | exact TK.k1 hT rfl | exact TK.kk hT rfl | exact TK.r hT rfl | assumption) rfl ?_
      refine wp_aload0 (pc' := 72) rfl rfl ?_
      refine wp_getI (pc' := 75) rfl rfl (by first | exact TK.k1 hT rfl | exact TK.kk hT rfl | exact TK.r hT rfl | assumption) rfl ?_
      rw [upr_ne (show (318 : Nat) ≠ 324 by decide), hN9]
      refine wp_iload6 (pc' := 77) rfl rfl ?_
      first | refine wp_iaddN (pc' := 78) rfl (by with_reducible rfl) (by with_reducible rfl) rfl ?_ | refine wp_iadd (pc' := 78) rfl rfl ?_
      refine wp_aload0 (pc' := 79) rfl rfl ?_
      refine wp_getRF (pc' := 82) rfl rfl (by first | exact TK.k1 hT rfl | exact TK.kk hT rfl | exact TK.r hT rfl | assumption) (by first | exact TK.k1 hT rfl | exact TK.kk hT rfl | exact TK.r hT rfl | assumption) rfl ?_
      refine wp_iload6 (pc' := 84) rfl rfl ?_
      refine wp_iconst (v := nI 4) (pc' := 85) rfl rfl rfl ?_
      first | refine wp_idivN (pc' := 86) rfl (by with_reducible rfl) (by with_reducible rfl) (by omega) (by omega) (by omega) rfl ?_ | refine wp_idiv (pc' := 86) rfl (by decide) rfl ?_
      refine wp_iald _ (pc' := 87) rfl (by first | exact TK.k1 hT rfl | exact TK.kk hT rfl | exact TK.r hT rfl | assumption) (by with_reducible rfl) (by omega) (by first | decide | assumption | omega) rfl ?_
      refine wp_bipush (v := nI 24) (pc' := 89) rfl rfl rfl ?_
      refine wp_bipush (v := nI 8) (pc' := 91) rfl rfl rfl ?_
      refine wp_iload6 (pc' := 93) rfl rfl ?_
      refine wp_iconst (v := nI 4) (pc' := 94) rfl rfl rfl ?_
      first | refine wp_iremN (pc' := 95) rfl (by with_reducible rfl) (by with_reducible rfl) (by omega) (by omega) (by omega) rfl ?_ | refine wp_irem (pc' := 95) rfl (by decide) rfl ?_
      first | refine wp_imulN (pc' := 96) rfl (by with_reducible rfl) (by with_reducible rfl) rfl ?_ | refine wp_imul (pc' := 96) rfl rfl ?_
      first | refine wp_isubN (pc' := 97) rfl (by with_reducible rfl) (by with_reducible rfl) (by omega) rfl ?_ | refine wp_isub (pc' := 97) rfl rfl ?_
      refine wp_ishr (pc' := 98) rfl rfl ?_
      refine wp_i2b (pc' := 99) rfl rfl ?_
      first | refine wp_bast _ (pc' := 100) rfl (by first | exact TK.k1 hT rfl | exact TK.kk hT rfl | exact TK.r hT rfl | assumption) (by omega) (by with_reducible rfl) (by omega) (by first | decide | assumption | omega) rfl ?_ | refine wp_zast _ (pc' := 100) rfl (by first | exact TK.k1 hT rfl | exact TK.kk hT rfl | exact TK.r hT rfl | assumption) (by omega) (by first | exact Or.inl rfl | exact Or.inr rfl) (by with_reducible rfl) (by omega) (by first | decide | assumption | omega) rfl ?_
      first | refine wp_iinc6 (w := nI 1) (pc' := 103) rfl rfl rfl (by with_reducible exact nI_add _ _) rfl ?_ | refine wp_iinc6 (w := nI 1) (pc' := 103) rfl rfl rfl rfl rfl ?_
      refine wp_goto rfl ?_
      exact WP.cg (ih (i + 1) (by omega)) (lC1 (lI1 (by rfl) (lI1 (by rfl) (lI1 (by rfl) (lI1 (by rfl) (lI1 (by rfl) (lI1 (by rfl) rfl))))))) rfl (by rw [upr_ne (show (325 : Nat) ≠ 324 by decide), up2_upr]; exact congrArg (fun r => (K, upr N 324 r, L, R, n, s)) (cpyO_up (f := fedB (N 325))))
  exact WP.cg (lp60 (20 - (0)) (0) (by omega)) (lC1 (lI1 (by rfl) (lI1 (by rfl) (lI1 (by rfl) (lI1 (by rfl) (lI1 (by rfl) (lI1 (by rfl) rfl))))))) rfl (by rw [cpyO_0, upr_id])
theorem m_feed0 {d : Nat} {K : Nat → Nat × Nat} {I : Nat → Nat → Int32} {L : Nat → Nat → Int64} {R : Nat → Nat → Option Nat} {n s : Nat} {Q : Lo → Lm → Prop} {T : Nat} {xa xb xc xd xe : Int32} (hT : TK K R n) (hTp : I 318 9 = nI T) (hT4 : 400 < T + 20) (hT5 : T ≤ 400) (kk : Q (.inl (some (.int (-1)))) (K, up2 I 318 0 (nI 0), L, R, n, s)) : Ok (d + 1) 216 [.ref 318, .int xa, .int xb, .int xc, .int xd, .int xe] (K, I, L, R, n, s) Q := by
  obtain ⟨-, -, hn⟩ := id hT
  refine Ok.enter (F := F_216) (ls := [.ref 318, .int xa, .int xb, .int xc, .int xd, .int xe, lDead]) rfl rfl ?_
  refine wp_aload0 (pc' := 1) rfl rfl ?_
  refine wp_iconst (v := nI 0) (pc' := 2) rfl rfl rfl ?_
  refine wp_putI (pc' := 5) rfl rfl (by first | exact TK.k1 hT rfl | exact TK.kk hT rfl | exact TK.r hT rfl | assumption) (by omega) rfl ?_
  obtain ⟨M, hM⟩ : ∃ M, M = up2 I 318 0 (nI 0) := ⟨_, rfl⟩
  have hM9 : M 319 = I 319 := by rw [hM]; exact up2_row (by decide)
  have hM7 : M 318 7 = I 318 7 := by rw [hM, up2_same, if_neg (by decide)]
  rw [← hM]
  have hM9t : M 318 9 = nI T := by rw [hM, up2_same, if_neg (by decide)]; exact hTp
  refine wp_aload0 (pc' := 6) rfl rfl ?_
  refine wp_getI (pc' := 9) rfl rfl (by first | exact TK.k1 hT rfl | exact TK.kk hT rfl | exact TK.r hT rfl | assumption) rfl ?_
  rw [hM9t]
  refine wp_bipush (v := nI 20) (pc' := 11) rfl rfl rfl ?_
  first | refine wp_iaddN (pc' := 12) rfl (by with_reducible rfl) (by with_reducible rfl) rfl ?_ | refine wp_iadd (pc' := 12) rfl rfl ?_
  refine wp_sipush (v := nI 400) (pc' := 15) rfl rfl rfl ?_
  refine wp_icmpleF (pc' := 18) rfl (nI_lt (by omega) (by omega)) rfl ?_
  refine wp_iconst (v := (-1)) (pc' := 19) rfl rfl rfl ?_
  refine wp_iret rfl rfl rfl ?_
  rw [hM]
  exact kk
