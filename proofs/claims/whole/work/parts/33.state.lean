/-! WHAT IS READ OF A STATE -/
theorem up2_row {α : Type} {f : Nat → Nat → α} {a k i : Nat} {v : α} (h : i ≠ a) : up2 f a k v i = f i := by
  funext j; unfold up2; rw [if_neg (fun e => h e.1)]
theorem up2_same {α : Type} {f : Nat → Nat → α} {a k j : Nat} {v : α} : up2 f a k v a j = if j = k then v else f a j := by
  unfold up2
  by_cases h : j = k
  · rw [if_pos ⟨rfl, h⟩, if_pos h]
  · rw [if_neg (fun e => h e.2), if_neg h]
theorem up2_hit {α : Type} {f : Nat → Nat → α} {a k : Nat} {v : α} : up2 f a k v a k = v := by rw [up2_same, if_pos rfl]
theorem vw_up2 {b k j : Nat} {I : Nat → Nat → Int32} {v : Int32} : vw b (up2 I (b + k) j v) = up2 (vw b I) k j v := by
  funext i l
  show up2 I (b + k) j v (b + i) l = up2 (vw b I) k j v i l
  by_cases h : i = k
  · subst h; rw [up2_same, up2_same]; rfl
  · rw [up2_row (by omega), up2_row h]; rfl
abbrev hasP (x : Int32) (c : Nat) : Prop := jshr x (nI c) &&& nI 1 = nI 1
abbrev openQ (S : Nat → Nat → Int32) (c : Nat) : Prop := nI 0 < S 1 c ∧ ¬ nI 3 < S 2 c ∧ S 3 c < nI 90
def openS (S : Nat → Nat → Int32) : Int32 := forN (fun c f => if openQ S c then f ||| jshl (nI 1) (nI c) else f) (nI 0) 25
def ownS (S : Nat → Nat → Int32) (c H : Nat) : Int32 := forN (fun h f => if hasP (S 9 h) c then f ||| jshl (nI 1) (nI h) else f) (nI 0) H
def lackS (S : Nat → Nat → Int32) (h : Nat) : Int32 := jmax (S 7 h - S 8 h) (nI 0)
/-- the first place from i on, of r, where p holds; -1 if there is none -/
def ffrom (p : Nat → Prop) [∀ c, Decidable (p c)] : Nat → Nat → Int32
  | 0, _ => -1
  | r + 1, i => if p i then nI i else ffrom p r (i + 1)
abbrev fopP (S : Nat → Nat → Int32) (h c : Nat) : Prop := hasP (S 9 h) c ∧ openQ S c
def fopS (S : Nat → Nat → Int32) (h : Nat) : Int32 := ffrom (fopP S h) 25 0
def sumN (D : Nat → Int32) (w : Nat) : Int32 := forN (fun j x => x + D j) (nI 0) w
def mostN (D : Nat → Int32) : Nat → Nat
  | 0 => 0
  | i + 1 => if D (mostN D i) < D i then i else mostN D i
theorem mostN_lt (D : Nat → Int32) : ∀ i, 0 < i → mostN D i < i
  | 0, h => absurd h (by omega)
  | i + 1, _ => by
    unfold mostN
    by_cases e : D (mostN D i) < D i
    · rw [if_pos e]; omega
    · rw [if_neg e]
      by_cases z : i = 0
      · subst z; show 0 < 1; omega
      · have := mostN_lt D i (by omega); omega
def drainC (x : Int32) : Int32 := spreadC (x &&& nI 16777216) x
def lettC (x : Int32) : Int32 := x ||| besideC x

theorem c_drained {d : Nat} {K : Nat → Nat × Nat} {I : Nat → Nat → Int32} {L : Nat → Nat → Int64} {R : Nat → Nat → Option Nat} {n s : Nat} {Q : Lo → Lm → Prop} {b : Nat} (hb : StK K R n b) (kk : Q (.inl (some (.int (drainC (I b 11))))) (K, I, L, R, n, s)) : Ok (d + 3) 16 [.ref b] (K, I, L, R, n, s) Q := by
  obtain ⟨k0, k1, k2, k3, k4, k5, k6, k7, k8, k9, k10, k11, r0, r1, r2, r3, r4, r5, r6, r7, r8, r9, r10, hbn⟩ := id hb
  refine Ok.enter (F := F_16) (ls := [.ref b]) rfl rfl ?_
  refine wp_aload0 (pc' := 1) rfl rfl ?_
  refine wp_getI (pc' := 4) rfl rfl (by assumption) rfl ?_
  refine wp_pool (v := .int (nI 16777216)) (pc' := 6) rfl rfl rfl rfl rfl ?_
  refine wp_iand (pc' := 7) rfl rfl ?_
  refine wp_aload0 (pc' := 8) rfl rfl ?_
  refine wp_getI (pc' := 11) rfl rfl (by assumption) rfl ?_
  refine wp_callS2 (pc' := 14) rfl rfl rfl rfl rfl rfl ?_
  refine c_spread ?_
  refine Cont.v ?_
  refine wp_iret rfl rfl rfl ?_
  exact kk
theorem c_letting {d : Nat} {K : Nat → Nat × Nat} {I : Nat → Nat → Int32} {L : Nat → Nat → Int64} {R : Nat → Nat → Option Nat} {n s : Nat} {Q : Lo → Lm → Prop} {x : Int32}  (kk : Q (.inl (some (.int (lettC x)))) (K, I, L, R, n, s)) : Ok (d + 2) 29 [.int x] (K, I, L, R, n, s) Q := by
  refine Ok.enter (F := F_29) (ls := [.int x]) rfl rfl ?_
  refine wp_iload0 (pc' := 1) rfl rfl ?_
  refine wp_iload0 (pc' := 2) rfl rfl ?_
  refine wp_callS1 (pc' := 5) rfl rfl rfl rfl rfl rfl ?_
  refine c_beside ?_
  refine Cont.v ?_
  refine wp_ior (pc' := 6) rfl rfl ?_
  refine wp_iret rfl rfl rfl ?_
  exact kk
theorem c_oneIf {d : Nat} {K : Nat → Nat × Nat} {I : Nat → Nat → Int32} {L : Nat → Nat → Int64} {R : Nat → Nat → Option Nat} {n s : Nat} {Q : Lo → Lm → Prop} {p : Prop} [Decidable p]  (kk : Q (.inl (some (.int (if p then nI 1 else nI 0)))) (K, I, L, R, n, s)) : Ok (d + 1) 62 [.int (if p then nI 1 else nI 0)] (K, I, L, R, n, s) Q := by
  refine Ok.enter (F := F_62) (ls := [.int (if p then nI 1 else nI 0)]) rfl rfl ?_
  refine wp_iload0 (pc' := 1) rfl rfl ?_
  first | refine wp_ifeqB (pc' := 4) rfl rfl ?_ ?_ | refine wp_ifeq (pc' := 4) rfl rfl ?_ ?_
  · intro h1
    refine wp_iconst (v := nI 0) (pc' := 9) rfl rfl rfl ?_
    refine wp_iret rfl rfl rfl ?_
    exact Qv kk (by first | rfl | (simp +decide only [*, ↓reduceIte, and_self, and_true, true_and, and_false, false_and, not_true_eq_false, not_false_eq_true]; done) | (simp_all []; done)) rfl
  · intro h1
    refine wp_iconst (v := nI 1) (pc' := 5) rfl rfl rfl ?_
    refine wp_goto rfl ?_
    refine wp_iret rfl rfl rfl ?_
    exact Qv kk (by first | rfl | (simp +decide only [*, ↓reduceIte, and_self, and_true, true_and, and_false, false_and, not_true_eq_false, not_false_eq_true]; done) | (simp_all []; done)) rfl
theorem c_isOpen {d : Nat} {K : Nat → Nat × Nat} {I : Nat → Nat → Int32} {L : Nat → Nat → Int64} {R : Nat → Nat → Option Nat} {n s : Nat} {Q : Lo → Lm → Prop} {b : Nat} (hb : StK K R n b) {c : Nat} (hc : c < 25) (kk : Q (.inl (some (.int (if openQ (vw b I) c then nI 1 else nI 0)))) (K, I, L, R, n, s)) : Ok (d + 1) 21 [.ref b, .int (nI c)] (K, I, L, R, n, s) Q := by
  obtain ⟨k0, k1, k2, k3, k4, k5, k6, k7, k8, k9, k10, k11, r0, r1, r2, r3, r4, r5, r6, r7, r8, r9, r10, hbn⟩ := id hb
  refine Ok.enter (F := F_21) (ls := [.ref b, .int (nI c)]) rfl rfl ?_
  refine wp_aload0 (pc' := 1) rfl rfl ?_
  refine wp_getRF (pc' := 4) rfl rfl (by assumption) (by assumption) rfl ?_
  refine wp_iload1 (pc' := 5) rfl rfl ?_
  refine wp_iald _ (pc' := 6) rfl (by assumption) (by with_reducible rfl) (by omega) (by first | decide | assumption | omega) rfl ?_
  refine wp_ifle (pc' := 9) rfl rfl ?_ ?_
  · intro h6
    refine wp_iconst (v := nI 0) (pc' := 35) rfl rfl rfl ?_
    refine wp_iret rfl rfl (by first | rfl | exact nar_if) ?_
    exact Qv kk (by first | rfl | (simp +decide only [openQ, vw, *, ↓reduceIte, and_self, and_true, true_and, and_false, false_and, not_true_eq_false, not_false_eq_true]; done) | (simp_all [openQ, vw]; done)) rfl
  · intro h6
    refine wp_aload0 (pc' := 10) rfl rfl ?_
    refine wp_getRF (pc' := 13) rfl rfl (by assumption) (by assumption) rfl ?_
    refine wp_iload1 (pc' := 14) rfl rfl ?_
    refine wp_iald _ (pc' := 15) rfl (by assumption) (by with_reducible rfl) (by omega) (by first | decide | assumption | omega) rfl ?_
    refine wp_iconst (v := nI 3) (pc' := 16) rfl rfl rfl ?_
    refine wp_icmpgt (pc' := 19) rfl rfl ?_ ?_
    · intro h16
      refine wp_iconst (v := nI 0) (pc' := 35) rfl rfl rfl ?_
      refine wp_iret rfl rfl (by first | rfl | exact nar_if) ?_
      exact Qv kk (by first | rfl | (simp +decide only [openQ, vw, *, ↓reduceIte, and_self, and_true, true_and, and_false, false_and, not_true_eq_false, not_false_eq_true]; done) | (simp_all [openQ, vw]; done)) rfl
    · intro h16
      refine wp_aload0 (pc' := 20) rfl rfl ?_
      refine wp_getRF (pc' := 23) rfl rfl (by assumption) (by assumption) rfl ?_
      refine wp_iload1 (pc' := 24) rfl rfl ?_
      refine wp_iald _ (pc' := 25) rfl (by assumption) (by with_reducible rfl) (by omega) (by first | decide | assumption | omega) rfl ?_
      refine wp_bipush (v := nI 90) (pc' := 27) rfl rfl rfl ?_
      refine wp_icmpge (pc' := 30) rfl rfl ?_ ?_
      · intro h27
        refine wp_iconst (v := nI 0) (pc' := 35) rfl rfl rfl ?_
        refine wp_iret rfl rfl (by first | rfl | exact nar_if) ?_
        exact Qv kk (by first | rfl | (simp +decide only [openQ, vw, *, ↓reduceIte, and_self, and_true, true_and, and_false, false_and, not_true_eq_false, not_false_eq_true]; done) | (simp_all [openQ, vw]; done)) rfl
      · intro h27
        refine wp_iconst (v := nI 1) (pc' := 31) rfl rfl rfl ?_
        refine wp_goto rfl ?_
        refine wp_iret rfl rfl (by first | rfl | exact nar_if) ?_
        exact Qv kk (by first | rfl | (simp +decide only [openQ, vw, *, ↓reduceIte, and_self, and_true, true_and, and_false, false_and, not_true_eq_false, not_false_eq_true]; done) | (simp_all [openQ, vw]; done)) rfl
theorem c_openCells {d : Nat} {K : Nat → Nat × Nat} {I : Nat → Nat → Int32} {L : Nat → Nat → Int64} {R : Nat → Nat → Option Nat} {n s : Nat} {Q : Lo → Lm → Prop} {b : Nat} (hb : StK K R n b) (kk : Q (.inl (some (.int (openS (vw b I))))) (K, I, L, R, n, s)) : Ok (d + 2) 20 [.ref b] (K, I, L, R, n, s) Q := by
  obtain ⟨k0, k1, k2, k3, k4, k5, k6, k7, k8, k9, k10, k11, r0, r1, r2, r3, r4, r5, r6, r7, r8, r9, r10, hbn⟩ := id hb
  refine Ok.enter (F := F_20) (ls := [.ref b, lDead, lDead]) rfl rfl ?_
  refine wp_iconst (v := nI 0) (pc' := 1) rfl rfl rfl ?_
  refine wp_istore1 (pc' := 2) rfl (by first | rfl | assumption) rfl ?_
  refine wp_iconst (v := nI 0) (pc' := 3) rfl rfl rfl ?_
  refine wp_istore2 (pc' := 4) rfl (by first | rfl | assumption) rfl ?_
  have lp4 : ∀ r (i : Nat), i + r = 25 → WP (d + 1) F_20 4 [.ref b, .int (forN (fun c f => if openQ (vw b I) c then f ||| jshl (nI 1) (nI c) else f) (nI 0) i), .int (nI i)] [] (K, I, L, R, n, s) Q := by
    intro r; induction r with
    | zero =>
      intro i hi 
      have hi2 : i = 25 := by omega
      subst hi2
      refine wp_iload2 (pc' := 5) rfl rfl ?_
      refine wp_bipush (v := nI 25) (pc' := 7) rfl rfl rfl ?_
      refine wp_icmpgeT rfl (nI_nlt (by omega) (by omega)) ?_
      refine wp_iload1 (pc' := 31) rfl rfl ?_
      refine wp_iret rfl rfl rfl ?_
      exact kk
    | succ r ih =>
      intro i hi 
      have hlt : i < 25 := by omega
      refine wp_iload2 (pc' := 5) rfl rfl ?_
      refine wp_bipush (v := nI 25) (pc' := 7) rfl rfl rfl ?_
      refine wp_icmpgeF (pc' := 10) rfl (nI_lt (by omega) (by omega)) rfl ?_
      refine wp_aload0 (pc' := 11) rfl rfl ?_
      refine wp_iload2 (pc' := 12) rfl rfl ?_
      refine wp_callV2 (pc' := 15) rfl rfl rfl rfl rfl (by assumption) rfl rfl ?_
      refine c_isOpen hb (by omega) ?_
      refine Cont.v ?_
      first | refine wp_ifeqB (pc' := 18) rfl rfl ?_ ?_ | refine wp_ifeq (pc' := 18) rfl rfl ?_ ?_
      · intro h15
        first | refine wp_iinc2 (w := nI 1) (pc' := 27) rfl rfl rfl (by with_reducible exact nI_add _ _) rfl ?_ | refine wp_iinc2 (w := nI 1) (pc' := 27) rfl rfl rfl rfl rfl ?_
        refine wp_goto rfl ?_
        exact WP.cg (ih (i + 1) (by omega)) (lC1 (lI1 (by first | rfl | (simp only [forN, *, ↓reduceIte]; done) | (simp_all [forN]; done)) (lI1 (by first | rfl | (simp only [forN, *, ↓reduceIte]; done) | (simp_all [forN]; done)) rfl))) rfl (by first | rfl | (simp only [forN, *, ↓reduceIte]; done) | (simp_all [forN]; done))
      · intro h15
        refine wp_iload1 (pc' := 19) rfl rfl ?_
        refine wp_iconst (v := nI 1) (pc' := 20) rfl rfl rfl ?_
        refine wp_iload2 (pc' := 21) rfl rfl ?_
        refine wp_ishl (pc' := 22) rfl rfl ?_
        refine wp_ior (pc' := 23) rfl rfl ?_
        refine wp_istore1 (pc' := 24) rfl (by first | rfl | assumption) rfl ?_
        first | refine wp_iinc2 (w := nI 1) (pc' := 27) rfl rfl rfl (by with_reducible exact nI_add _ _) rfl ?_ | refine wp_iinc2 (w := nI 1) (pc' := 27) rfl rfl rfl rfl rfl ?_
        refine wp_goto rfl ?_
        exact WP.cg (ih (i + 1) (by omega)) (lC1 (lI1 (by first | rfl | (simp only [forN, *, ↓reduceIte]; done) | (simp_all [forN]; done)) (lI1 (by first | rfl | (simp only [forN, *, ↓reduceIte]; done) | (simp_all [forN]; done)) rfl))) rfl (by first | rfl | (simp only [forN, *, ↓reduceIte]; done) | (simp_all [forN]; done))
  exact WP.cg (lp4 (25 - 0) (0) (by omega)) (lC1 (lI1 (by first | rfl | (simp only [forN, *, ↓reduceIte]; done) | (simp_all [forN]; done)) (lI1 (by first | rfl | (simp only [forN, *, ↓reduceIte]; done) | (simp_all [forN]; done)) rfl))) rfl (by first | rfl | (simp only [forN, *, ↓reduceIte]; done) | (simp_all [forN]; done))
theorem c_hasRight {d : Nat} {K : Nat → Nat × Nat} {I : Nat → Nat → Int32} {L : Nat → Nat → Int64} {R : Nat → Nat → Option Nat} {n s : Nat} {Q : Lo → Lm → Prop} {b : Nat} (hb : StK K R n b) {h c : Nat} (hh : h < 6) (kk : Q (.inl (some (.int (if hasP (vw b I 9 h) c then nI 1 else nI 0)))) (K, I, L, R, n, s)) : Ok (d + 1) 38 [.ref b, .int (nI h), .int (nI c)] (K, I, L, R, n, s) Q := by
  obtain ⟨k0, k1, k2, k3, k4, k5, k6, k7, k8, k9, k10, k11, r0, r1, r2, r3, r4, r5, r6, r7, r8, r9, r10, hbn⟩ := id hb
  refine Ok.enter (F := F_38) (ls := [.ref b, .int (nI h), .int (nI c)]) rfl rfl ?_
  refine wp_aload0 (pc' := 1) rfl rfl ?_
  refine wp_getRF (pc' := 4) rfl rfl (by assumption) (by assumption) rfl ?_
  refine wp_iload1 (pc' := 5) rfl rfl ?_
  refine wp_iald _ (pc' := 6) rfl (by assumption) (by with_reducible rfl) (by omega) (by first | decide | assumption | omega) rfl ?_
  refine wp_iload2 (pc' := 7) rfl rfl ?_
  refine wp_ishr (pc' := 8) rfl rfl ?_
  refine wp_iconst (v := nI 1) (pc' := 9) rfl rfl rfl ?_
  refine wp_iand (pc' := 10) rfl rfl ?_
  refine wp_iconst (v := nI 1) (pc' := 11) rfl rfl rfl ?_
  refine wp_icmpne (pc' := 14) rfl rfl ?_ ?_
  · intro h11
    refine wp_iconst (v := nI 0) (pc' := 19) rfl rfl rfl ?_
    refine wp_iret rfl rfl (by first | rfl | exact nar_if) ?_
    exact Qv kk (by first | rfl | (simp +decide only [hasP, vw, *, ↓reduceIte, and_self, and_true, true_and, and_false, false_and, not_true_eq_false, not_false_eq_true]; done) | (simp_all [hasP, vw]; done)) rfl
  · intro h11
    refine wp_iconst (v := nI 1) (pc' := 15) rfl rfl rfl ?_
    refine wp_goto rfl ?_
    refine wp_iret rfl rfl (by first | rfl | exact nar_if) ?_
    exact Qv kk (by first | rfl | (simp +decide only [hasP, vw, *, ↓reduceIte, and_self, and_true, true_and, and_false, false_and, not_true_eq_false, not_false_eq_true]; done) | (simp_all [hasP, vw]; done)) rfl
theorem c_owners {d : Nat} {K : Nat → Nat × Nat} {I : Nat → Nat → Int32} {L : Nat → Nat → Int64} {R : Nat → Nat → Option Nat} {n s : Nat} {Q : Lo → Lm → Prop} {b : Nat} (hb : StK K R n b) {c : Nat} {H : Nat} (hH : I b 10 = nI H) (hH6 : H ≤ 6) (kk : Q (.inl (some (.int (ownS (vw b I) c H)))) (K, I, L, R, n, s)) : Ok (d + 2) 116 [.ref b, .int (nI c)] (K, I, L, R, n, s) Q := by
  obtain ⟨k0, k1, k2, k3, k4, k5, k6, k7, k8, k9, k10, k11, r0, r1, r2, r3, r4, r5, r6, r7, r8, r9, r10, hbn⟩ := id hb
  refine Ok.enter (F := F_116) (ls := [.ref b, .int (nI c), lDead, lDead]) rfl rfl ?_
  refine wp_iconst (v := nI 0) (pc' := 1) rfl rfl rfl ?_
  refine wp_istore2 (pc' := 2) rfl (by first | rfl | assumption) rfl ?_
  refine wp_iconst (v := nI 0) (pc' := 3) rfl rfl rfl ?_
  refine wp_istore3 (pc' := 4) rfl (by first | rfl | assumption) rfl ?_
  have lp4 : ∀ r (i : Nat), i + r = H → WP (d + 1) F_116 4 [.ref b, .int (nI c), .int (forN (fun h f => if hasP (vw b I 9 h) c then f ||| jshl (nI 1) (nI h) else f) (nI 0) i), .int (nI i)] [] (K, I, L, R, n, s) Q := by
    intro r; induction r with
    | zero =>
      intro i hi 
      have hi2 : i = H := by omega
      subst hi2
      refine wp_iload3 (pc' := 5) rfl rfl ?_
      refine wp_aload0 (pc' := 6) rfl rfl ?_
      refine wp_getI (pc' := 9) rfl rfl (by assumption) rfl ?_
      refine wp_icmpgeT rfl (by rw [hH]; exact nI_nlt (by omega) (by omega)) ?_
      refine wp_iload2 (pc' := 34) rfl rfl ?_
      refine wp_iret rfl rfl rfl ?_
      exact kk
    | succ r ih =>
      intro i hi 
      have hlt : i < H := by omega
      refine wp_iload3 (pc' := 5) rfl rfl ?_
      refine wp_aload0 (pc' := 6) rfl rfl ?_
      refine wp_getI (pc' := 9) rfl rfl (by assumption) rfl ?_
      refine wp_icmpgeF (pc' := 12) rfl (by rw [hH]; exact nI_lt (by omega) (by omega)) rfl ?_
      refine wp_aload0 (pc' := 13) rfl rfl ?_
      refine wp_iload3 (pc' := 14) rfl rfl ?_
      refine wp_iload1 (pc' := 15) rfl rfl ?_
      refine wp_callV3 (pc' := 18) rfl rfl rfl rfl rfl (by assumption) rfl rfl ?_
      refine c_hasRight hb (by omega) ?_
      refine Cont.v ?_
      first | refine wp_ifeqB (pc' := 21) rfl rfl ?_ ?_ | refine wp_ifeq (pc' := 21) rfl rfl ?_ ?_
      · intro h18
        first | refine wp_iinc3 (w := nI 1) (pc' := 30) rfl rfl rfl (by with_reducible exact nI_add _ _) rfl ?_ | refine wp_iinc3 (w := nI 1) (pc' := 30) rfl rfl rfl rfl rfl ?_
        refine wp_goto rfl ?_
        exact WP.cg (ih (i + 1) (by omega)) (lC1 (lI1 (by first | rfl | (simp only [forN, *, ↓reduceIte]; done) | (simp_all [forN]; done)) (lI1 (by first | rfl | (simp only [forN, *, ↓reduceIte]; done) | (simp_all [forN]; done)) (lI1 (by first | rfl | (simp only [forN, *, ↓reduceIte]; done) | (simp_all [forN]; done)) rfl)))) rfl (by first | rfl | (simp only [forN, *, ↓reduceIte]; done) | (simp_all [forN]; done))
      · intro h18
        refine wp_iload2 (pc' := 22) rfl rfl ?_
        refine wp_iconst (v := nI 1) (pc' := 23) rfl rfl rfl ?_
        refine wp_iload3 (pc' := 24) rfl rfl ?_
        refine wp_ishl (pc' := 25) rfl rfl ?_
        refine wp_ior (pc' := 26) rfl rfl ?_
        refine wp_istore2 (pc' := 27) rfl (by first | rfl | assumption) rfl ?_
        first | refine wp_iinc3 (w := nI 1) (pc' := 30) rfl rfl rfl (by with_reducible exact nI_add _ _) rfl ?_ | refine wp_iinc3 (w := nI 1) (pc' := 30) rfl rfl rfl rfl rfl ?_
        refine wp_goto rfl ?_
        exact WP.cg (ih (i + 1) (by omega)) (lC1 (lI1 (by first | rfl | (simp only [forN, *, ↓reduceIte]; done) | (simp_all [forN]; done)) (lI1 (by first | rfl | (simp only [forN, *, ↓reduceIte]; done) | (simp_all [forN]; done)) (lI1 (by first | rfl | (simp only [forN, *, ↓reduceIte]; done) | (simp_all [forN]; done)) rfl)))) rfl (by first | rfl | (simp only [forN, *, ↓reduceIte]; done) | (simp_all [forN]; done))
  exact WP.cg (lp4 (H - 0) (0) (by omega)) (lC1 (lI1 (by first | rfl | (simp only [forN, *, ↓reduceIte]; done) | (simp_all [forN]; done)) (lI1 (by first | rfl | (simp only [forN, *, ↓reduceIte]; done) | (simp_all [forN]; done)) (lI1 (by first | rfl | (simp only [forN, *, ↓reduceIte]; done) | (simp_all [forN]; done)) rfl)))) rfl (by first | rfl | (simp only [forN, *, ↓reduceIte]; done) | (simp_all [forN]; done))
theorem c_lacks {d : Nat} {K : Nat → Nat × Nat} {I : Nat → Nat → Int32} {L : Nat → Nat → Int64} {R : Nat → Nat → Option Nat} {n s : Nat} {Q : Lo → Lm → Prop} {b : Nat} (hb : StK K R n b) {h : Nat} (hh : h < 6) (kk : Q (.inl (some (.int (lackS (vw b I) h)))) (K, I, L, R, n, s)) : Ok (d + 1) 54 [.ref b, .int (nI h)] (K, I, L, R, n, s) Q := by
  obtain ⟨k0, k1, k2, k3, k4, k5, k6, k7, k8, k9, k10, k11, r0, r1, r2, r3, r4, r5, r6, r7, r8, r9, r10, hbn⟩ := id hb
  refine Ok.enter (F := F_54) (ls := [.ref b, .int (nI h)]) rfl rfl ?_
  refine wp_aload0 (pc' := 1) rfl rfl ?_
  refine wp_getRF (pc' := 4) rfl rfl (by assumption) (by assumption) rfl ?_
  refine wp_iload1 (pc' := 5) rfl rfl ?_
  refine wp_iald _ (pc' := 6) rfl (by assumption) (by with_reducible rfl) (by omega) (by first | decide | assumption | omega) rfl ?_
  refine wp_aload0 (pc' := 7) rfl rfl ?_
  refine wp_getRF (pc' := 10) rfl rfl (by assumption) (by assumption) rfl ?_
  refine wp_iload1 (pc' := 11) rfl rfl ?_
  refine wp_iald _ (pc' := 12) rfl (by assumption) (by with_reducible rfl) (by omega) (by first | decide | assumption | omega) rfl ?_
  first | refine wp_isubN (pc' := 13) rfl (by with_reducible rfl) (by with_reducible rfl) (by omega) rfl ?_ | refine wp_isub (pc' := 13) rfl rfl ?_
  refine wp_iconst (v := nI 0) (pc' := 14) rfl rfl rfl ?_
  refine wp_max (pc' := 17) rfl rfl rfl rfl ?_
  refine wp_iret rfl rfl rfl ?_
  exact kk
theorem c_firstOpen {d : Nat} {K : Nat → Nat × Nat} {I : Nat → Nat → Int32} {L : Nat → Nat → Int64} {R : Nat → Nat → Option Nat} {n s : Nat} {Q : Lo → Lm → Prop} {b : Nat} (hb : StK K R n b) {h : Nat} (hh : h < 6) (kk : Q (.inl (some (.int (fopS (vw b I) h)))) (K, I, L, R, n, s)) : Ok (d + 2) 37 [.ref b, .int (nI h)] (K, I, L, R, n, s) Q := by
  obtain ⟨k0, k1, k2, k3, k4, k5, k6, k7, k8, k9, k10, k11, r0, r1, r2, r3, r4, r5, r6, r7, r8, r9, r10, hbn⟩ := id hb
  refine Ok.enter (F := F_37) (ls := [.ref b, .int (nI h), lDead]) rfl rfl ?_
  refine wp_iconst (v := nI 0) (pc' := 1) rfl rfl rfl ?_
  refine wp_istore2 (pc' := 2) rfl (by first | rfl | assumption) rfl ?_
  have lp2 : ∀ r (i : Nat), i + r = 25 → ffrom (fopP (vw b I) h) r i = ffrom (fopP (vw b I) h) 25 0 → WP (d + 1) F_37 2 [.ref b, .int (nI h), .int (nI i)] [] (K, I, L, R, n, s) Q := by
    intro r; induction r with
    | zero =>
      intro i hi hv0
      have hi2 : i = 25 := by omega
      subst hi2
      refine wp_iload2 (pc' := 3) rfl rfl ?_
      refine wp_bipush (v := nI 25) (pc' := 5) rfl rfl rfl ?_
      refine wp_icmpgeT rfl (nI_nlt (by omega) (by omega)) ?_
      refine wp_iconst (v := (-1)) (pc' := 34) rfl rfl rfl ?_
      refine wp_iret rfl rfl rfl ?_
      exact Qv kk hv0 rfl
    | succ r ih =>
      intro i hi hv0
      have hlt : i < 25 := by omega
      refine wp_iload2 (pc' := 3) rfl rfl ?_
      refine wp_bipush (v := nI 25) (pc' := 5) rfl rfl rfl ?_
      refine wp_icmpgeF (pc' := 8) rfl (nI_lt (by omega) (by omega)) rfl ?_
      refine wp_aload0 (pc' := 9) rfl rfl ?_
      refine wp_iload1 (pc' := 10) rfl rfl ?_
      refine wp_iload2 (pc' := 11) rfl rfl ?_
      refine wp_callV3 (pc' := 14) rfl rfl rfl rfl rfl (by assumption) rfl rfl ?_
      refine c_hasRight hb (by omega) ?_
      refine Cont.v ?_
      first | refine wp_ifeqB (pc' := 17) rfl rfl ?_ ?_ | refine wp_ifeq (pc' := 17) rfl rfl ?_ ?_
      · intro h14
        first | refine wp_iinc2 (w := nI 1) (pc' := 30) rfl rfl rfl (by with_reducible exact nI_add _ _) rfl ?_ | refine wp_iinc2 (w := nI 1) (pc' := 30) rfl rfl rfl rfl rfl ?_
        refine wp_goto rfl ?_
        exact WP.cg (ih (i + 1) (by omega) (by rw [ffrom, if_neg (by simp_all)] at hv0; exact hv0)) (lC1 (lI1 (by first | rfl | (simp only [forN, *, ↓reduceIte]; done) | (simp_all [forN]; done)) (lI1 (by first | rfl | (simp only [forN, *, ↓reduceIte]; done) | (simp_all [forN]; done)) rfl))) rfl (by first | rfl | (simp only [forN, *, ↓reduceIte]; done) | (simp_all [forN]; done))
      · intro h14
        refine wp_aload0 (pc' := 18) rfl rfl ?_
        refine wp_iload2 (pc' := 19) rfl rfl ?_
        refine wp_callV2 (pc' := 22) rfl rfl rfl rfl rfl (by assumption) rfl rfl ?_
        refine c_isOpen hb (by omega) ?_
        refine Cont.v ?_
        first | refine wp_ifeqB (pc' := 25) rfl rfl ?_ ?_ | refine wp_ifeq (pc' := 25) rfl rfl ?_ ?_
        · intro h22
          first | refine wp_iinc2 (w := nI 1) (pc' := 30) rfl rfl rfl (by with_reducible exact nI_add _ _) rfl ?_ | refine wp_iinc2 (w := nI 1) (pc' := 30) rfl rfl rfl rfl rfl ?_
          refine wp_goto rfl ?_
          exact WP.cg (ih (i + 1) (by omega) (by rw [ffrom, if_neg (by simp_all)] at hv0; exact hv0)) (lC1 (lI1 (by first | rfl | (simp only [forN, *, ↓reduceIte]; done) | (simp_all [forN]; done)) (lI1 (by first | rfl | (simp only [forN, *, ↓reduceIte]; done) | (simp_all [forN]; done)) rfl))) rfl (by first | rfl | (simp only [forN, *, ↓reduceIte]; done) | (simp_all [forN]; done))
        · intro h22
          refine wp_iload2 (pc' := 26) rfl rfl ?_
          refine wp_iret rfl rfl rfl ?_
          exact Qv kk (by rw [ffrom, if_pos ⟨by assumption, by assumption⟩] at hv0; exact hv0) rfl
  exact WP.cg (lp2 (25 - 0) (0) (by omega) rfl) (lC1 (lI1 (by first | rfl | (simp only [forN, *, ↓reduceIte]; done) | (simp_all [forN]; done)) (lI1 (by first | rfl | (simp only [forN, *, ↓reduceIte]; done) | (simp_all [forN]; done)) rfl))) rfl (by first | rfl | (simp only [forN, *, ↓reduceIte]; done) | (simp_all [forN]; done))
theorem c_sum {d : Nat} {K : Nat → Nat × Nat} {I : Nat → Nat → Int32} {L : Nat → Nat → Int64} {R : Nat → Nat → Option Nat} {n s : Nat} {Q : Lo → Lm → Prop} {a w : Nat} (ha : K a = (50, w)) (hw : w < 2 ^ 31) (kk : Q (.inl (some (.int (sumN (I a) w)))) (K, I, L, R, n, s)) : Ok (d + 1) 42 [.ref a] (K, I, L, R, n, s) Q := by
  refine Ok.enter (F := F_42) (ls := [.ref a, lDead, lDead, lDead, lDead, lDead]) rfl rfl ?_
  refine wp_iconst (v := nI 0) (pc' := 1) rfl rfl rfl ?_
  refine wp_istore1 (pc' := 2) rfl (by first | rfl | assumption) rfl ?_
  refine wp_aload0 (pc' := 3) rfl rfl ?_
  refine wp_astore2 (pc' := 4) rfl (by first | rfl | assumption) rfl ?_
  refine wp_aload2 (pc' := 5) rfl rfl ?_
  refine wp_alen (pc' := 6) rfl (by assumption) rfl rfl rfl ?_
  refine wp_istore3 (pc' := 7) rfl (by first | rfl | assumption) rfl ?_
  refine wp_iconst (v := nI 0) (pc' := 8) rfl rfl rfl ?_
  refine wp_istore4 (pc' := 10) rfl (by first | rfl | assumption) rfl ?_
  have lp10 : ∀ r (i : Nat) (v5 : Value), i + r = w → isL v5 = false → WP d F_42 10 [.ref a, .int (sumN (I a) i), .ref a, .int (nI w), .int (nI i), v5] [] (K, I, L, R, n, s) Q := by
    intro r; induction r with
    | zero =>
      intro i v5 hi hv0
      have hi2 : i = w := by omega
      subst hi2
      refine wp_iload4 (pc' := 12) rfl rfl ?_
      refine wp_iload3 (pc' := 13) rfl rfl ?_
      refine wp_icmpgeT rfl (nI_nlt (by omega) (by omega)) ?_
      refine wp_iload1 (pc' := 34) rfl rfl ?_
      refine wp_iret rfl rfl rfl ?_
      exact kk
    | succ r ih =>
      intro i v5 hi hv0
      have hlt : i < w := by omega
      refine wp_iload4 (pc' := 12) rfl rfl ?_
      refine wp_iload3 (pc' := 13) rfl rfl ?_
      refine wp_icmpgeF (pc' := 16) rfl (nI_lt (by omega) (by omega)) rfl ?_
      refine wp_aload2 (pc' := 17) rfl rfl ?_
      refine wp_iload4 (pc' := 19) rfl rfl ?_
      refine wp_iald _ (pc' := 20) rfl (by assumption) (by with_reducible rfl) (by omega) (by first | decide | assumption | omega) rfl ?_
      refine wp_istore5 (pc' := 22) rfl (by first | rfl | assumption) rfl ?_
      refine wp_iload1 (pc' := 23) rfl rfl ?_
      refine wp_iload5 (pc' := 25) rfl rfl ?_
      first | refine wp_iaddN (pc' := 26) rfl (by with_reducible rfl) (by with_reducible rfl) rfl ?_ | refine wp_iadd (pc' := 26) rfl rfl ?_
      refine wp_istore1 (pc' := 27) rfl (by first | rfl | assumption) rfl ?_
      first | refine wp_iinc4 (w := nI 1) (pc' := 30) rfl rfl rfl (by with_reducible exact nI_add _ _) rfl ?_ | refine wp_iinc4 (w := nI 1) (pc' := 30) rfl rfl rfl rfl rfl ?_
      refine wp_goto rfl ?_
      exact WP.cg (ih (i + 1) _ (by omega) (by first | rfl | assumption)) (lC1 (lI1 (by first | rfl | (simp only [forN, *, ↓reduceIte]; done) | (simp_all [forN]; done)) (lC1 (lI1 (by first | rfl | (simp only [forN, *, ↓reduceIte]; done) | (simp_all [forN]; done)) (lI1 (by first | rfl | (simp only [forN, *, ↓reduceIte]; done) | (simp_all [forN]; done)) (lC1 rfl)))))) rfl (by first | rfl | (simp only [forN, *, ↓reduceIte]; done) | (simp_all [forN]; done))
  exact WP.cg (lp10 (w - 0) (0) _ (by omega) (by first | rfl | assumption)) (lC1 (lI1 (by first | rfl | (simp only [forN, *, ↓reduceIte]; done) | (simp_all [forN]; done)) (lC1 (lI1 (by first | rfl | (simp only [forN, *, ↓reduceIte]; done) | (simp_all [forN]; done)) (lI1 (by first | rfl | (simp only [forN, *, ↓reduceIte]; done) | (simp_all [forN]; done)) (lC1 rfl)))))) rfl (by first | rfl | (simp only [forN, *, ↓reduceIte]; done) | (simp_all [forN]; done))
theorem c_firstOfMost {d : Nat} {K : Nat → Nat × Nat} {I : Nat → Nat → Int32} {L : Nat → Nat → Int64} {R : Nat → Nat → Option Nat} {n s : Nat} {Q : Lo → Lm → Prop} {a w l : Nat} (ha : K a = (50, w)) (hw : w < 2 ^ 31) (hl : l ≤ w) (hl0 : 0 < l) (kk : Q (.inl (some (.int (nI (mostN (I a) l))))) (K, I, L, R, n, s)) : Ok (d + 1) 27 [.ref a, .int (nI l)] (K, I, L, R, n, s) Q := by
  refine Ok.enter (F := F_27) (ls := [.ref a, .int (nI l), lDead, lDead]) rfl rfl ?_
  refine wp_iconst (v := nI 0) (pc' := 1) rfl rfl rfl ?_
  refine wp_istore2 (pc' := 2) rfl (by first | rfl | assumption) rfl ?_
  refine wp_iconst (v := nI 1) (pc' := 3) rfl rfl rfl ?_
  refine wp_istore3 (pc' := 4) rfl (by first | rfl | assumption) rfl ?_
  have lp4 : ∀ r (i : Nat), i + r = l → 0 < i → WP d F_27 4 [.ref a, .int (nI l), .int (nI (mostN (I a) i)), .int (nI i)] [] (K, I, L, R, n, s) Q := by
    intro r; induction r with
    | zero =>
      intro i hi hv0
      have hi2 : i = l := by omega
      subst hi2
      refine wp_iload3 (pc' := 5) rfl rfl ?_
      refine wp_iload1 (pc' := 6) rfl rfl ?_
      refine wp_icmpgeT rfl (nI_nlt (by omega) (by omega)) ?_
      refine wp_iload2 (pc' := 33) rfl rfl ?_
      refine wp_iret rfl rfl rfl ?_
      exact kk
    | succ r ih =>
      intro i hi hv0
      have hlt : i < l := by omega
      have hm := mostN_lt (I a) i hv0
      refine wp_iload3 (pc' := 5) rfl rfl ?_
      refine wp_iload1 (pc' := 6) rfl rfl ?_
      refine wp_icmpgeF (pc' := 9) rfl (nI_lt (by omega) (by omega)) rfl ?_
      refine wp_iload3 (pc' := 10) rfl rfl ?_
      refine wp_aload0 (pc' := 11) rfl rfl ?_
      refine wp_alen (pc' := 12) rfl (by assumption) rfl rfl rfl ?_
      refine wp_icmpgeF (pc' := 15) rfl (nI_lt (by omega) (by omega)) rfl ?_
      refine wp_aload0 (pc' := 16) rfl rfl ?_
      refine wp_iload3 (pc' := 17) rfl rfl ?_
      refine wp_iald _ (pc' := 18) rfl (by assumption) (by with_reducible rfl) (by omega) (by first | decide | assumption | omega) rfl ?_
      refine wp_aload0 (pc' := 19) rfl rfl ?_
      refine wp_iload2 (pc' := 20) rfl rfl ?_
      refine wp_iald _ (pc' := 21) rfl (by assumption) (by with_reducible rfl) (by omega) (by first | decide | assumption | omega) rfl ?_
      refine wp_icmple (pc' := 24) rfl rfl ?_ ?_
      · intro h21
        first | refine wp_iinc3 (w := nI 1) (pc' := 29) rfl rfl rfl (by with_reducible exact nI_add _ _) rfl ?_ | refine wp_iinc3 (w := nI 1) (pc' := 29) rfl rfl rfl rfl rfl ?_
        refine wp_goto rfl ?_
        exact WP.cg (ih (i + 1) (by omega) (by omega)) (lC1 (lI1 (by first | rfl | (simp only [mostN, *, ↓reduceIte]; done)) (lI1 (by first | rfl | (simp only [mostN, *, ↓reduceIte]; done)) (lI1 (by first | rfl | (simp only [mostN, *, ↓reduceIte]; done)) rfl)))) rfl (by first | rfl | (simp only [forN, *, ↓reduceIte]; done) | (simp_all [forN]; done))
      · intro h21
        refine wp_iload3 (pc' := 25) rfl rfl ?_
        refine wp_istore2 (pc' := 26) rfl (by first | rfl | assumption) rfl ?_
        first | refine wp_iinc3 (w := nI 1) (pc' := 29) rfl rfl rfl (by with_reducible exact nI_add _ _) rfl ?_ | refine wp_iinc3 (w := nI 1) (pc' := 29) rfl rfl rfl rfl rfl ?_
        refine wp_goto rfl ?_
        exact WP.cg (ih (i + 1) (by omega) (by omega)) (lC1 (lI1 (by first | rfl | (simp only [mostN, *, ↓reduceIte]; done)) (lI1 (by first | rfl | (simp only [mostN, *, ↓reduceIte]; done)) (lI1 (by first | rfl | (simp only [mostN, *, ↓reduceIte]; done)) rfl)))) rfl (by first | rfl | (simp only [forN, *, ↓reduceIte]; done) | (simp_all [forN]; done))
  exact WP.cg (lp4 (l - 1) (1) (by omega) (by omega)) (lC1 (lI1 (by first | rfl | (simp [mostN]; done)) (lI1 (by first | rfl | (simp [mostN]; done)) (lI1 (by first | rfl | (simp [mostN]; done)) rfl)))) rfl (by first | rfl | (simp only [forN, *, ↓reduceIte]; done) | (simp_all [forN]; done))
