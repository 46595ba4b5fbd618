/-! A LAW: the sum of a kind; what turves gain and carts sink -/
abbrev Mem : Type := Nat → Nat → Int32
def tstep (I : Mem) (la b c : Nat) (dr kd : Int32) (bg : Nat → Nat) (i : Nat) (p : Int32 × (Nat → Int32)) : Int32 × (Nat → Int32) :=
  if I (la + 1) i = kd then ((if holdP (upr I (la + 5) p.2) la b c dr (bg i) (bg (i + 1) - bg i) then p.1 + I (la + 2) i else p.1), (hrunC (upr I (la + 5) p.2) la b c dr (bg i) (bg (i + 1) - bg i)).2) else p
def totC (I : Mem) (la b c : Nat) (dr kd : Int32) (bg : Nat → Nat) (m : Nat) : Int32 × (Nat → Int32) := forN (fun i p => tstep I la b c dr kd bg i p) (nI 0, I (la + 5)) m

theorem c_total {d : Nat} {K : Nat → Nat × Nat} {I : Nat → Nat → Int32} {L : Nat → Nat → Int64} {R : Nat → Nat → Option Nat} {n s : Nat} {Q : Lo → Lm → Prop} {la b c m z : Nat} {dr kd : Int32} {bg : Nat → Nat} (hla : LawK K R n la m z) (hN : LawN I la m z bg) (hb : StK K R n b) (hc : c < 25) (hlb : la + 6 ≤ b ∨ b + 12 ≤ la) (kk : Q (.inl (some (.int ((totC I la b c dr kd bg m).1)))) (K, upr I (la + 5) (totC I la b c dr kd bg m).2, L, R, n, s)) : Ok (d + 3) 33 [.ref la, .int kd, .ref b, .int (nI c), .int dr] (K, I, L, R, n, s) Q := by
  obtain ⟨k0, k1, k2, k3, k4, k5, k6, k7, k8, k9, k10, k11, r0, r1, r2, r3, r4, r5, r6, r7, r8, r9, r10, hbn⟩ := id hb
  obtain ⟨q0, q1, q2, q3, q4, q5, p1, p2, p3, p4, p5, hln, hm12, hz⟩ := id hla
  refine Ok.enter (F := F_33) (ls := [.ref la, .int kd, .ref b, .int (nI c), .int dr, lDead, lDead]) rfl rfl ?_
  refine wp_iconst (v := nI 0) (pc' := 1) rfl rfl rfl ?_
  refine wp_istore5 (pc' := 3) rfl (by first | rfl | assumption) rfl ?_
  refine wp_iconst (v := nI 0) (pc' := 4) rfl rfl rfl ?_
  refine wp_istore6 (pc' := 6) rfl (by first | rfl | assumption) rfl ?_
  have lp6 : ∀ r (i : Nat), i + r = m → WP (d + 2) F_33 6 [.ref la, .int kd, .ref b, .int (nI c), .int dr, .int (totC I la b c dr kd bg i).1, .int (nI i)] [] (K, upr I (la + 5) (totC I la b c dr kd bg i).2, L, R, n, s) Q := by
    intro r; induction r with
    | zero =>
      intro i hi 
      have hi2 : i = m := by omega
      subst hi2
      refine wp_iload6 (pc' := 8) rfl rfl ?_
      refine wp_aload0 (pc' := 9) rfl rfl ?_
      refine wp_getIF (pc' := 12) rfl rfl (by assumption) rfl ?_
      rw [upr_ne (show la ≠ la + 5 by omega), hN.1]
      refine wp_icmpgeT rfl (nI_nlt (by omega) (by omega)) ?_
      refine wp_iload5 (pc' := 59) rfl rfl ?_
      refine wp_iret rfl rfl rfl ?_
      exact kk
    | succ r ih =>
      intro i hi 
      have hlt : i < m := by omega
      obtain ⟨x, g, hp⟩ : ∃ x g, totC I la b c dr kd bg i = (x, g) := ⟨_, _, rfl⟩
      have hs : totC I la b c dr kd bg (i + 1) = tstep I la b c dr kd bg i (x, g) := by rw [← hp]; rfl
      rw [hp]
      refine wp_iload6 (pc' := 8) rfl rfl ?_
      refine wp_aload0 (pc' := 9) rfl rfl ?_
      refine wp_getIF (pc' := 12) rfl rfl (by assumption) rfl ?_
      rw [upr_ne (show la ≠ la + 5 by omega), hN.1]
      refine wp_icmpgeF (pc' := 15) rfl (nI_lt (by omega) (by omega)) rfl ?_
      refine wp_aload0 (pc' := 16) rfl rfl ?_
      refine wp_getRF (pc' := 19) rfl rfl (by assumption) (by assumption) rfl ?_
      refine wp_iload6 (pc' := 21) rfl rfl ?_
      refine wp_iald _ (pc' := 22) rfl (by assumption) (by with_reducible rfl) (by omega) (by first | decide | assumption | omega) rfl ?_
      rw [upr_ne (show la + 1 ≠ la + 5 by omega)]
      refine wp_iload1 (pc' := 23) rfl rfl ?_
      refine wp_icmpne (pc' := 26) rfl rfl ?_ ?_
      · intro h23
        first | refine wp_iinc6 (w := nI 1) (pc' := 54) rfl rfl rfl (by with_reducible exact nI_add _ _) rfl ?_ | refine wp_iinc6 (w := nI 1) (pc' := 54) rfl rfl rfl rfl rfl ?_
        refine wp_goto rfl ?_
        exact WP.cg (ih (i + 1) (by omega)) (lC1 (lI1 (by first | rfl | (rw [hs]; simp only [tstep, *, ↓reduceIte]; done)) (lC1 (lI1 (by first | rfl | (rw [hs]; simp only [tstep, *, ↓reduceIte]; done)) (lI1 (by first | rfl | (rw [hs]; simp only [tstep, *, ↓reduceIte]; done)) (lI1 (by first | rfl | (rw [hs]; simp only [tstep, *, ↓reduceIte]; done)) (lI1 (by first | rfl | (rw [hs]; simp only [tstep, *, ↓reduceIte]; done)) rfl))))))) rfl (by rw [hs]; first | (simp only [tstep, *, ↓reduceIte]; done))
      · intro h23
        refine wp_aload0 (pc' := 27) rfl rfl ?_
        refine wp_iload6 (pc' := 29) rfl rfl ?_
        refine wp_aload2 (pc' := 30) rfl rfl ?_
        refine wp_iload3 (pc' := 31) rfl rfl ?_
        refine wp_iload4 (pc' := 33) rfl rfl ?_
        refine wp_callV5 (pc' := 36) rfl rfl rfl rfl rfl (by assumption) rfl rfl ?_
        refine c_holds hla hb (by omega) (by omega) (bg0 := bg i) (bg1 := bg (i + 1)) (by rw [upr_ne (show la + 3 ≠ la + 5 by omega)]; exact hN.2.1 _ (by omega)) (by rw [upr_ne (show la + 3 ≠ la + 5 by omega)]; exact hN.2.1 _ (by omega)) (hN.2.2.1 _ (by omega)) (hN.2.2.2 _ (by omega)) hlb ?_
        refine Cont.v ?_
        rw [upr_upr]
        first | refine wp_ifeqB (pc' := 39) rfl rfl ?_ ?_ | refine wp_ifeq (pc' := 39) rfl rfl ?_ ?_
        · intro h36
          first | refine wp_iinc6 (w := nI 1) (pc' := 54) rfl rfl rfl (by with_reducible exact nI_add _ _) rfl ?_ | refine wp_iinc6 (w := nI 1) (pc' := 54) rfl rfl rfl rfl rfl ?_
          refine wp_goto rfl ?_
          exact WP.cg (ih (i + 1) (by omega)) (lC1 (lI1 (by first | rfl | (rw [hs]; simp only [tstep, *, ↓reduceIte]; done)) (lC1 (lI1 (by first | rfl | (rw [hs]; simp only [tstep, *, ↓reduceIte]; done)) (lI1 (by first | rfl | (rw [hs]; simp only [tstep, *, ↓reduceIte]; done)) (lI1 (by first | rfl | (rw [hs]; simp only [tstep, *, ↓reduceIte]; done)) (lI1 (by first | rfl | (rw [hs]; simp only [tstep, *, ↓reduceIte]; done)) rfl))))))) rfl (by rw [hs]; first | (simp only [tstep, *, ↓reduceIte]; done))
        · intro h36
          refine wp_iload5 (pc' := 41) rfl rfl ?_
          refine wp_aload0 (pc' := 42) rfl rfl ?_
          refine wp_getRF (pc' := 45) rfl rfl (by assumption) (by assumption) rfl ?_
          refine wp_iload6 (pc' := 47) rfl rfl ?_
          refine wp_iald _ (pc' := 48) rfl (by assumption) (by with_reducible rfl) (by omega) (by first | decide | assumption | omega) rfl ?_
          rw [upr_ne (show la + 2 ≠ la + 5 by omega)]
          first | refine wp_iaddN (pc' := 49) rfl (by with_reducible rfl) (by with_reducible rfl) rfl ?_ | refine wp_iadd (pc' := 49) rfl rfl ?_
          refine wp_istore5 (pc' := 51) rfl (by first | rfl | assumption) rfl ?_
          first | refine wp_iinc6 (w := nI 1) (pc' := 54) rfl rfl rfl (by with_reducible exact nI_add _ _) rfl ?_ | refine wp_iinc6 (w := nI 1) (pc' := 54) rfl rfl rfl rfl rfl ?_
          refine wp_goto rfl ?_
          exact WP.cg (ih (i + 1) (by omega)) (lC1 (lI1 (by first | rfl | (rw [hs]; simp only [tstep, *, ↓reduceIte]; done)) (lC1 (lI1 (by first | rfl | (rw [hs]; simp only [tstep, *, ↓reduceIte]; done)) (lI1 (by first | rfl | (rw [hs]; simp only [tstep, *, ↓reduceIte]; done)) (lI1 (by first | rfl | (rw [hs]; simp only [tstep, *, ↓reduceIte]; done)) (lI1 (by first | rfl | (rw [hs]; simp only [tstep, *, ↓reduceIte]; done)) rfl))))))) rfl (by rw [hs]; first | (simp only [tstep, *, ↓reduceIte]; done))
  exact WP.cg (lp6 (m - 0) (0) (by omega)) (lC1 (lI1 (by first | rfl | (simp only [forN, *, ↓reduceIte]; done) | (simp_all [forN]; done)) (lC1 (lI1 (by first | rfl | (simp only [forN, *, ↓reduceIte]; done) | (simp_all [forN]; done)) (lI1 (by first | rfl | (simp only [forN, *, ↓reduceIte]; done) | (simp_all [forN]; done)) (lI1 (by first | rfl | (simp only [forN, *, ↓reduceIte]; done) | (simp_all [forN]; done)) (lI1 (by first | rfl | (simp only [forN, *, ↓reduceIte]; done) | (simp_all [forN]; done)) rfl))))))) rfl (by exact mI1 upr_id.symm)
def plainG (I : Mem) (b c : Nat) : Int32 := if I b 14 = nI 0 then I b 12 + nI 2 * I (b + 5) c else I (b + 5) c - nI 3
abbrev LawT : Type := Option (Nat × Nat × Nat × (Nat → Nat))
/-- the law of a state, in memory -/
def LO (K : Nat → Nat × Nat) (R : Nat → Nat → Option Nat) (n : Nat) (I : Mem) (b : Nat) (o : LawT) : Prop := match o with
  | none => R b 18 = none
  | some (la, m, z, bg) => R b 18 = some la ∧ LawK K R n la m z ∧ LawN I la m z bg ∧ (la + 6 ≤ b ∨ b + 12 ≤ la)
/-- the stack's row of a law, after an evaluation -/
def lwM (I : Mem) (la : Nat) (g : Nat → Int32) : Mem := upr I (la + 5) g
def totF (I : Mem) (b c : Nat) (dr kd : Int32) (o : LawT) : Int32 × Mem := match o with
  | none => (nI 0, I)
  | some (la, m, _, bg) => ((totC I la b c dr kd bg m).1, upr I (la + 5) (totC I la b c dr kd bg m).2)
def gainF (I : Mem) (b c : Nat) (dr : Int32) (o : LawT) : Int32 × Mem := match o with
  | none => (plainG I b c, I)
  | some q => (plainG I b c + (totF I b c dr (nI 0) (some q)).1 - (totF (totF I b c dr (nI 0) (some q)).2 b c dr (nI 1) (some q)).1, (totF (totF I b c dr (nI 0) (some q)).2 b c dr (nI 1) (some q)).2)
def sinkF (I : Mem) (b c : Nat) (dr : Int32) (o : LawT) : Int32 × Mem := match o with
  | none => (I (b + 2) c, I)
  | some q => (I (b + 2) c + (totF I b c dr (nI 2) (some q)).1, (totF I b c dr (nI 2) (some q)).2)
theorem LawN_upr {I : Mem} {la m z : Nat} {bg : Nat → Nat} {g : Nat → Int32} (h : LawN I la m z bg) : LawN (upr I (la + 5) g) la m z bg := by
  obtain ⟨h1, h2, h3, h4⟩ := h
  refine ⟨by rw [upr_ne (show la ≠ la + 5 by omega)]; exact h1, fun l hl => ?_, h3, h4⟩
  rw [upr_ne (show la + 3 ≠ la + 5 by omega)]; exact h2 l hl

theorem c_gain_n {d : Nat} {K : Nat → Nat × Nat} {I : Nat → Nat → Int32} {L : Nat → Nat → Int64} {R : Nat → Nat → Option Nat} {n s : Nat} {Q : Lo → Lm → Prop} {b c : Nat} {dr : Int32} (hb : StK K R n b) (hc : c < 25) (hlw : R b 18 = none) (kk : Q (.inl (some (.int (plainG I b c)))) (K, I, L, R, n, s)) : Ok (d + 1) 32 [.ref b, .int (nI c), .int dr] (K, I, L, R, n, s) Q := by
  obtain ⟨k0, k1, k2, k3, k4, k5, k6, k7, k8, k9, k10, k11, r0, r1, r2, r3, r4, r5, r6, r7, r8, r9, r10, hbn⟩ := id hb
  refine Ok.enter (F := F_32) (ls := [.ref b, .int (nI c), .int dr, lDead]) rfl rfl ?_
  refine wp_aload0 (pc' := 1) rfl rfl ?_
  refine wp_getZ (pc' := 4) rfl rfl (by assumption) rfl ?_
  first | refine wp_ifeqB (pc' := 7) rfl rfl ?_ ?_ | refine wp_ifeq (pc' := 7) rfl rfl ?_ ?_
  · intro h4
    refine wp_aload0 (pc' := 19) rfl rfl ?_
    refine wp_getI (pc' := 22) rfl rfl (by assumption) rfl ?_
    refine wp_iconst (v := nI 2) (pc' := 23) rfl rfl rfl ?_
    refine wp_aload0 (pc' := 24) rfl rfl ?_
    refine wp_getRF (pc' := 27) rfl rfl (by assumption) (by assumption) rfl ?_
    refine wp_iload1 (pc' := 28) rfl rfl ?_
    refine wp_iald _ (pc' := 29) rfl (by assumption) (by with_reducible rfl) (by omega) (by first | decide | assumption | omega) rfl ?_
    first | refine wp_imulN (pc' := 30) rfl (by with_reducible rfl) (by with_reducible rfl) rfl ?_ | refine wp_imul (pc' := 30) rfl rfl ?_
    first | refine wp_iaddN (pc' := 31) rfl (by with_reducible rfl) (by with_reducible rfl) rfl ?_ | refine wp_iadd (pc' := 31) rfl rfl ?_
    refine wp_istore3 (pc' := 32) rfl (by first | rfl | assumption) rfl ?_
    refine wp_aload0 (pc' := 33) rfl rfl ?_
    first | refine wp_getR (pc' := 36) rfl rfl (by assumption) (by assumption) rfl ?_ | refine wp_getRN (pc' := 36) rfl rfl (by assumption) (by assumption) rfl ?_
    refine wp_ifnonnullN (pc' := 39) rfl rfl ?_
    refine wp_iload3 (pc' := 40) rfl rfl ?_
    refine wp_iret rfl rfl rfl ?_
    exact Qv kk (by first | rfl | (simp +decide only [plainG, *, ↓reduceIte, and_self, and_true, true_and, and_false, false_and, not_true_eq_false, not_false_eq_true]; done) | (simp_all [plainG]; done)) rfl
  · intro h4
    refine wp_aload0 (pc' := 8) rfl rfl ?_
    refine wp_getRF (pc' := 11) rfl rfl (by assumption) (by assumption) rfl ?_
    refine wp_iload1 (pc' := 12) rfl rfl ?_
    refine wp_iald _ (pc' := 13) rfl (by assumption) (by with_reducible rfl) (by omega) (by first | decide | assumption | omega) rfl ?_
    refine wp_iconst (v := nI 3) (pc' := 14) rfl rfl rfl ?_
    first | refine wp_isubN (pc' := 15) rfl (by with_reducible rfl) (by with_reducible rfl) (by omega) rfl ?_ | refine wp_isub (pc' := 15) rfl rfl ?_
    refine wp_goto rfl ?_
    refine wp_istore3 (pc' := 32) rfl (by first | rfl | assumption) rfl ?_
    refine wp_aload0 (pc' := 33) rfl rfl ?_
    first | refine wp_getR (pc' := 36) rfl rfl (by assumption) (by assumption) rfl ?_ | refine wp_getRN (pc' := 36) rfl rfl (by assumption) (by assumption) rfl ?_
    refine wp_ifnonnullN (pc' := 39) rfl rfl ?_
    refine wp_iload3 (pc' := 40) rfl rfl ?_
    refine wp_iret rfl rfl rfl ?_
    exact Qv kk (by first | rfl | (simp +decide only [plainG, *, ↓reduceIte, and_self, and_true, true_and, and_false, false_and, not_true_eq_false, not_false_eq_true]; done) | (simp_all [plainG]; done)) rfl
theorem c_gain_s {d : Nat} {K : Nat → Nat × Nat} {I : Nat → Nat → Int32} {L : Nat → Nat → Int64} {R : Nat → Nat → Option Nat} {n s : Nat} {Q : Lo → Lm → Prop} {la b c m z : Nat} {dr : Int32} {bg : Nat → Nat} (hlw : R b 18 = some la) (hla : LawK K R n la m z) (hN : LawN I la m z bg) (hb : StK K R n b) (hc : c < 25) (hlb : la + 6 ≤ b ∨ b + 12 ≤ la) (kk : Q (.inl (some (.int (plainG I b c + (totC I la b c dr (nI 0) bg m).1 - (totC (upr I (la + 5) (totC I la b c dr (nI 0) bg m).2) la b c dr (nI 1) bg m).1)))) (K, upr (upr I (la + 5) (totC I la b c dr (nI 0) bg m).2) (la + 5) (totC (upr I (la + 5) (totC I la b c dr (nI 0) bg m).2) la b c dr (nI 1) bg m).2, L, R, n, s)) : Ok (d + 4) 32 [.ref b, .int (nI c), .int dr] (K, I, L, R, n, s) Q := by
  obtain ⟨k0, k1, k2, k3, k4, k5, k6, k7, k8, k9, k10, k11, r0, r1, r2, r3, r4, r5, r6, r7, r8, r9, r10, hbn⟩ := id hb
  obtain ⟨q0, q1, q2, q3, q4, q5, p1, p2, p3, p4, p5, hln, hm12, hz⟩ := id hla
  refine Ok.enter (F := F_32) (ls := [.ref b, .int (nI c), .int dr, lDead]) rfl rfl ?_
  refine wp_aload0 (pc' := 1) rfl rfl ?_
  refine wp_getZ (pc' := 4) rfl rfl (by assumption) rfl ?_
  first | refine wp_ifeqB (pc' := 7) rfl rfl ?_ ?_ | refine wp_ifeq (pc' := 7) rfl rfl ?_ ?_
  · intro h4
    refine wp_aload0 (pc' := 19) rfl rfl ?_
    refine wp_getI (pc' := 22) rfl rfl (by assumption) rfl ?_
    refine wp_iconst (v := nI 2) (pc' := 23) rfl rfl rfl ?_
    refine wp_aload0 (pc' := 24) rfl rfl ?_
    refine wp_getRF (pc' := 27) rfl rfl (by assumption) (by assumption) rfl ?_
    refine wp_iload1 (pc' := 28) rfl rfl ?_
    refine wp_iald _ (pc' := 29) rfl (by assumption) (by with_reducible rfl) (by omega) (by first | decide | assumption | omega) rfl ?_
    first | refine wp_imulN (pc' := 30) rfl (by with_reducible rfl) (by with_reducible rfl) rfl ?_ | refine wp_imul (pc' := 30) rfl rfl ?_
    first | refine wp_iaddN (pc' := 31) rfl (by with_reducible rfl) (by with_reducible rfl) rfl ?_ | refine wp_iadd (pc' := 31) rfl rfl ?_
    refine wp_istore3 (pc' := 32) rfl (by first | rfl | assumption) rfl ?_
    refine wp_aload0 (pc' := 33) rfl rfl ?_
    first | refine wp_getR (pc' := 36) rfl rfl (by assumption) (by assumption) rfl ?_ | refine wp_getRN (pc' := 36) rfl rfl (by assumption) (by assumption) rfl ?_
    refine wp_ifnonnullR rfl ?_
    refine wp_iload3 (pc' := 42) rfl rfl ?_
    refine wp_aload0 (pc' := 43) rfl rfl ?_
    first | refine wp_getR (pc' := 46) rfl rfl (by assumption) (by assumption) rfl ?_ | refine wp_getRN (pc' := 46) rfl rfl (by assumption) (by assumption) rfl ?_
    refine wp_iconst (v := nI 0) (pc' := 47) rfl rfl rfl ?_
    refine wp_aload0 (pc' := 48) rfl rfl ?_
    refine wp_iload1 (pc' := 49) rfl rfl ?_
    refine wp_iload2 (pc' := 50) rfl rfl ?_
    refine wp_callV5 (pc' := 53) rfl rfl rfl rfl rfl (by assumption) rfl rfl ?_
    refine c_total hla hN hb hc hlb ?_
    refine Cont.v ?_
    first | refine wp_iaddN (pc' := 54) rfl (by with_reducible rfl) (by with_reducible rfl) rfl ?_ | refine wp_iadd (pc' := 54) rfl rfl ?_
    refine wp_aload0 (pc' := 55) rfl rfl ?_
    first | refine wp_getR (pc' := 58) rfl rfl (by assumption) (by assumption) rfl ?_ | refine wp_getRN (pc' := 58) rfl rfl (by assumption) (by assumption) rfl ?_
    refine wp_iconst (v := nI 1) (pc' := 59) rfl rfl rfl ?_
    refine wp_aload0 (pc' := 60) rfl rfl ?_
    refine wp_iload1 (pc' := 61) rfl rfl ?_
    refine wp_iload2 (pc' := 62) rfl rfl ?_
    refine wp_callV5 (pc' := 65) rfl rfl rfl rfl rfl (by assumption) rfl rfl ?_
    refine c_total hla (LawN_upr hN) hb hc hlb ?_
    refine Cont.v ?_
    first | refine wp_isubN (pc' := 66) rfl (by with_reducible rfl) (by with_reducible rfl) (by omega) rfl ?_ | refine wp_isub (pc' := 66) rfl rfl ?_
    refine wp_iret rfl rfl rfl ?_
    exact Qv kk (by first | rfl | (simp +decide only [plainG, *, ↓reduceIte, and_self, and_true, true_and, and_false, false_and, not_true_eq_false, not_false_eq_true]; done) | (simp_all [plainG]; done)) rfl
  · intro h4
    refine wp_aload0 (pc' := 8) rfl rfl ?_
    refine wp_getRF (pc' := 11) rfl rfl (by assumption) (by assumption) rfl ?_
    refine wp_iload1 (pc' := 12) rfl rfl ?_
    refine wp_iald _ (pc' := 13) rfl (by assumption) (by with_reducible rfl) (by omega) (by first | decide | assumption | omega) rfl ?_
    refine wp_iconst (v := nI 3) (pc' := 14) rfl rfl rfl ?_
    first | refine wp_isubN (pc' := 15) rfl (by with_reducible rfl) (by with_reducible rfl) (by omega) rfl ?_ | refine wp_isub (pc' := 15) rfl rfl ?_
    refine wp_goto rfl ?_
    refine wp_istore3 (pc' := 32) rfl (by first | rfl | assumption) rfl ?_
    refine wp_aload0 (pc' := 33) rfl rfl ?_
    first | refine wp_getR (pc' := 36) rfl rfl (by assumption) (by assumption) rfl ?_ | refine wp_getRN (pc' := 36) rfl rfl (by assumption) (by assumption) rfl ?_
    refine wp_ifnonnullR rfl ?_
    refine wp_iload3 (pc' := 42) rfl rfl ?_
    refine wp_aload0 (pc' := 43) rfl rfl ?_
    first | refine wp_getR (pc' := 46) rfl rfl (by assumption) (by assumption) rfl ?_ | refine wp_getRN (pc' := 46) rfl rfl (by assumption) (by assumption) rfl ?_
    refine wp_iconst (v := nI 0) (pc' := 47) rfl rfl rfl ?_
    refine wp_aload0 (pc' := 48) rfl rfl ?_
    refine wp_iload1 (pc' := 49) rfl rfl ?_
    refine wp_iload2 (pc' := 50) rfl rfl ?_
    refine wp_callV5 (pc' := 53) rfl rfl rfl rfl rfl (by assumption) rfl rfl ?_
    refine c_total hla hN hb hc hlb ?_
    refine Cont.v ?_
    first | refine wp_iaddN (pc' := 54) rfl (by with_reducible rfl) (by with_reducible rfl) rfl ?_ | refine wp_iadd (pc' := 54) rfl rfl ?_
    refine wp_aload0 (pc' := 55) rfl rfl ?_
    first | refine wp_getR (pc' := 58) rfl rfl (by assumption) (by assumption) rfl ?_ | refine wp_getRN (pc' := 58) rfl rfl (by assumption) (by assumption) rfl ?_
    refine wp_iconst (v := nI 1) (pc' := 59) rfl rfl rfl ?_
    refine wp_aload0 (pc' := 60) rfl rfl ?_
    refine wp_iload1 (pc' := 61) rfl rfl ?_
    refine wp_iload2 (pc' := 62) rfl rfl ?_
    refine wp_callV5 (pc' := 65) rfl rfl rfl rfl rfl (by assumption) rfl rfl ?_
    refine c_total hla (LawN_upr hN) hb hc hlb ?_
    refine Cont.v ?_
    first | refine wp_isubN (pc' := 66) rfl (by with_reducible rfl) (by with_reducible rfl) (by omega) rfl ?_ | refine wp_isub (pc' := 66) rfl rfl ?_
    refine wp_iret rfl rfl rfl ?_
    exact Qv kk (by first | rfl | (simp +decide only [plainG, *, ↓reduceIte, and_self, and_true, true_and, and_false, false_and, not_true_eq_false, not_false_eq_true]; done) | (simp_all [plainG]; done)) rfl
theorem c_sinks_n {d : Nat} {K : Nat → Nat × Nat} {I : Nat → Nat → Int32} {L : Nat → Nat → Int64} {R : Nat → Nat → Option Nat} {n s : Nat} {Q : Lo → Lm → Prop} {b c : Nat} {dr : Int32} (hb : StK K R n b) (hc : c < 25) (hlw : R b 18 = none) (kk : Q (.inl (some (.int (I (b + 2) c)))) (K, I, L, R, n, s)) : Ok (d + 1) 109 [.ref b, .int (nI c), .int dr] (K, I, L, R, n, s) Q := by
  obtain ⟨k0, k1, k2, k3, k4, k5, k6, k7, k8, k9, k10, k11, r0, r1, r2, r3, r4, r5, r6, r7, r8, r9, r10, hbn⟩ := id hb
  refine Ok.enter (F := F_109) (ls := [.ref b, .int (nI c), .int dr]) rfl rfl ?_
  refine wp_aload0 (pc' := 1) rfl rfl ?_
  first | refine wp_getR (pc' := 4) rfl rfl (by assumption) (by assumption) rfl ?_ | refine wp_getRN (pc' := 4) rfl rfl (by assumption) (by assumption) rfl ?_
  refine wp_ifnonnullN (pc' := 7) rfl rfl ?_
  refine wp_aload0 (pc' := 8) rfl rfl ?_
  refine wp_getRF (pc' := 11) rfl rfl (by assumption) (by assumption) rfl ?_
  refine wp_iload1 (pc' := 12) rfl rfl ?_
  refine wp_iald _ (pc' := 13) rfl (by assumption) (by with_reducible rfl) (by omega) (by first | decide | assumption | omega) rfl ?_
  refine wp_goto rfl ?_
  refine wp_iret rfl rfl rfl ?_
  exact kk
theorem c_sinks_s {d : Nat} {K : Nat → Nat × Nat} {I : Nat → Nat → Int32} {L : Nat → Nat → Int64} {R : Nat → Nat → Option Nat} {n s : Nat} {Q : Lo → Lm → Prop} {la b c m z : Nat} {dr : Int32} {bg : Nat → Nat} (hlw : R b 18 = some la) (hla : LawK K R n la m z) (hN : LawN I la m z bg) (hb : StK K R n b) (hc : c < 25) (hlb : la + 6 ≤ b ∨ b + 12 ≤ la) (kk : Q (.inl (some (.int (I (b + 2) c + (totC I la b c dr (nI 2) bg m).1)))) (K, upr I (la + 5) (totC I la b c dr (nI 2) bg m).2, L, R, n, s)) : Ok (d + 4) 109 [.ref b, .int (nI c), .int dr] (K, I, L, R, n, s) Q := by
  obtain ⟨k0, k1, k2, k3, k4, k5, k6, k7, k8, k9, k10, k11, r0, r1, r2, r3, r4, r5, r6, r7, r8, r9, r10, hbn⟩ := id hb
  obtain ⟨q0, q1, q2, q3, q4, q5, p1, p2, p3, p4, p5, hln, hm12, hz⟩ := id hla
  refine Ok.enter (F := F_109) (ls := [.ref b, .int (nI c), .int dr]) rfl rfl ?_
  refine wp_aload0 (pc' := 1) rfl rfl ?_
  first | refine wp_getR (pc' := 4) rfl rfl (by assumption) (by assumption) rfl ?_ | refine wp_getRN (pc' := 4) rfl rfl (by assumption) (by assumption) rfl ?_
  refine wp_ifnonnullR rfl ?_
  refine wp_aload0 (pc' := 17) rfl rfl ?_
  refine wp_getRF (pc' := 20) rfl rfl (by assumption) (by assumption) rfl ?_
  refine wp_iload1 (pc' := 21) rfl rfl ?_
  refine wp_iald _ (pc' := 22) rfl (by assumption) (by with_reducible rfl) (by omega) (by first | decide | assumption | omega) rfl ?_
  refine wp_aload0 (pc' := 23) rfl rfl ?_
  first | refine wp_getR (pc' := 26) rfl rfl (by assumption) (by assumption) rfl ?_ | refine wp_getRN (pc' := 26) rfl rfl (by assumption) (by assumption) rfl ?_
  refine wp_iconst (v := nI 2) (pc' := 27) rfl rfl rfl ?_
  refine wp_aload0 (pc' := 28) rfl rfl ?_
  refine wp_iload1 (pc' := 29) rfl rfl ?_
  refine wp_iload2 (pc' := 30) rfl rfl ?_
  refine wp_callV5 (pc' := 33) rfl rfl rfl rfl rfl (by assumption) rfl rfl ?_
  refine c_total hla hN hb hc hlb ?_
  refine Cont.v ?_
  first | refine wp_iaddN (pc' := 34) rfl (by with_reducible rfl) (by with_reducible rfl) rfl ?_ | refine wp_iadd (pc' := 34) rfl rfl ?_
  refine wp_iret rfl rfl rfl ?_
  exact kk
theorem c_gain {d : Nat} {K : Nat → Nat × Nat} {I : Mem} {L : Nat → Nat → Int64} {R : Nat → Nat → Option Nat} {n s : Nat} {Q : Lo → Lm → Prop} {b c : Nat} {dr : Int32} {o : LawT} (hb : StK K R n b) (hc : c < 25) (hlo : LO K R n I b o) (kk : Q (.inl (some (.int (gainF I b c dr o).1))) (K, (gainF I b c dr o).2, L, R, n, s)) : Ok (d + 4) 32 [.ref b, .int (nI c), .int dr] (K, I, L, R, n, s) Q := by
  match o, hlo, kk with
  | none, hlo, kk => exact c_gain_n hb hc hlo kk
  | some (la, m, z, bg), ⟨h1, h2, h3, h4⟩, kk => exact c_gain_s h1 h2 h3 hb hc h4 kk
theorem c_sinks {d : Nat} {K : Nat → Nat × Nat} {I : Mem} {L : Nat → Nat → Int64} {R : Nat → Nat → Option Nat} {n s : Nat} {Q : Lo → Lm → Prop} {b c : Nat} {dr : Int32} {o : LawT} (hb : StK K R n b) (hc : c < 25) (hlo : LO K R n I b o) (kk : Q (.inl (some (.int (sinkF I b c dr o).1))) (K, (sinkF I b c dr o).2, L, R, n, s)) : Ok (d + 4) 109 [.ref b, .int (nI c), .int dr] (K, I, L, R, n, s) Q := by
  match o, hlo, kk with
  | none, hlo, kk => exact c_sinks_n hb hc hlo kk
  | some (la, m, z, bg), ⟨h1, h2, h3, h4⟩, kk => exact c_sinks_s h1 h2 h3 hb hc h4 kk
