/-! GROUND, and what is read of a state -/
def besideC (x : Int32) : Int32 := (jshr (x &&& (-1082402)) (nI 1) ||| jshl (x &&& (-17318417)) (nI 1) ||| jshr x (nI 5) ||| jshl x (nI 5)) &&& nI 33554431
def moreC (w x : Int32) : Int32 := x ||| (besideC x &&& w)
def spreadC (x w : Int32) : Int32 := forN (fun _ y => moreC w y) x 25
theorem forN_stay {α : Type} (f : α → α) (a : α) {i : Nat} (h : f (forN (fun _ y => f y) a i) = forN (fun _ y => f y) a i) : ∀ {n : Nat}, i ≤ n → forN (fun _ y => f y) a n = forN (fun _ y => f y) a i := by
  intro n hn
  induction n with
  | zero => obtain rfl : i = 0 := by omega
            rfl
  | succ n ih =>
    by_cases e : i = n + 1
    · subst e; rfl
    · show f (forN (fun _ y => f y) a n) = _
      rw [ih (by omega), h]
/-- a state's cells: the object, its rows, its log -/
def StK (K : Nat → Nat × Nat) (R : Nat → Nat → Option Nat) (n b : Nat) : Prop :=
  (K b).1 = 2 ∧ K (b + 1) = (50, 25) ∧ K (b + 2) = (50, 25) ∧ K (b + 3) = (50, 25) ∧ K (b + 4) = (50, 25) ∧ K (b + 5) = (50, 25) ∧ K (b + 6) = (50, 6) ∧ K (b + 7) = (50, 6) ∧ K (b + 8) = (50, 6) ∧ K (b + 9) = (50, 6) ∧ (K (b + 10)).1 = 3 ∧ K (b + 11) = (50, 300) ∧
  R b 0 = some (b + 1) ∧ R b 1 = some (b + 2) ∧ R b 2 = some (b + 3) ∧ R b 3 = some (b + 4) ∧ R b 4 = some (b + 5) ∧ R b 5 = some (b + 6) ∧ R b 6 = some (b + 7) ∧ R b 7 = some (b + 8) ∧ R b 8 = some (b + 9) ∧ R b 9 = some (b + 10) ∧ R (b + 10) 0 = some (b + 11) ∧ b + 12 ≤ n

theorem c_beside {d : Nat} {K : Nat → Nat × Nat} {I : Nat → Nat → Int32} {L : Nat → Nat → Int64} {R : Nat → Nat → Option Nat} {n s : Nat} {Q : Lo → Lm → Prop} {x : Int32}  (kk : Q (.inl (some (.int (besideC x)))) (K, I, L, R, n, s)) : Ok (d + 1) 18 [.int x] (K, I, L, R, n, s) Q := by
  refine Ok.enter (F := F_18) (ls := [.int x, lDead]) rfl rfl ?_
  refine wp_iload0 (pc' := 1) rfl rfl ?_
  refine wp_pool (v := .int ((-1082402))) (pc' := 3) rfl rfl rfl rfl rfl ?_
  refine wp_iand (pc' := 4) rfl rfl ?_
  refine wp_iconst (v := nI 1) (pc' := 5) rfl rfl rfl ?_
  refine wp_ishr (pc' := 6) rfl rfl ?_
  refine wp_iload0 (pc' := 7) rfl rfl ?_
  refine wp_pool (v := .int ((-17318417))) (pc' := 9) rfl rfl rfl rfl rfl ?_
  refine wp_iand (pc' := 10) rfl rfl ?_
  refine wp_iconst (v := nI 1) (pc' := 11) rfl rfl rfl ?_
  refine wp_ishl (pc' := 12) rfl rfl ?_
  refine wp_ior (pc' := 13) rfl rfl ?_
  refine wp_istore1 (pc' := 14) rfl (by first | rfl | assumption) rfl ?_
  refine wp_iload1 (pc' := 15) rfl rfl ?_
  refine wp_iload0 (pc' := 16) rfl rfl ?_
  refine wp_iconst (v := nI 5) (pc' := 17) rfl rfl rfl ?_
  refine wp_ishr (pc' := 18) rfl rfl ?_
  refine wp_ior (pc' := 19) rfl rfl ?_
  refine wp_iload0 (pc' := 20) rfl rfl ?_
  refine wp_iconst (v := nI 5) (pc' := 21) rfl rfl rfl ?_
  refine wp_ishl (pc' := 22) rfl rfl ?_
  refine wp_ior (pc' := 23) rfl rfl ?_
  refine wp_pool (v := .int (nI 33554431)) (pc' := 25) rfl rfl rfl rfl rfl ?_
  refine wp_iand (pc' := 26) rfl rfl ?_
  refine wp_iret rfl rfl rfl ?_
  exact kk
theorem c_spread {d : Nat} {K : Nat → Nat × Nat} {I : Nat → Nat → Int32} {L : Nat → Nat → Int64} {R : Nat → Nat → Option Nat} {n s : Nat} {Q : Lo → Lm → Prop} {x w : Int32}  (kk : Q (.inl (some (.int (spreadC x w)))) (K, I, L, R, n, s)) : Ok (d + 2) 17 [.int x, .int w] (K, I, L, R, n, s) Q := by
  refine Ok.enter (F := F_17) (ls := [.int x, .int w, lDead, lDead, lDead]) rfl rfl ?_
  refine wp_iload0 (pc' := 1) rfl rfl ?_
  refine wp_istore2 (pc' := 2) rfl (by first | rfl | assumption) rfl ?_
  refine wp_iconst (v := nI 0) (pc' := 3) rfl rfl rfl ?_
  refine wp_istore3 (pc' := 4) rfl (by first | rfl | assumption) rfl ?_
  have lp4 : ∀ r (i : Nat) (v4 : Value), i + r = 25 → isL v4 = false → WP (d + 1) F_17 4 [.int x, .int w, .int (forN (fun _ y => moreC w y) x i), .int (nI i), v4] [] (K, I, L, R, n, s) Q := by
    intro r; induction r with
    | zero =>
      intro i v4 hi hv0
      have hi2 : i = 25 := by omega
      subst hi2
      refine wp_iload3 (pc' := 5) rfl rfl ?_
      refine wp_bipush (v := nI 25) (pc' := 7) rfl rfl rfl ?_
      refine wp_icmpgeT rfl (nI_nlt (by omega) (by omega)) ?_
      refine wp_iload2 (pc' := 39) rfl rfl ?_
      refine wp_iret rfl rfl rfl ?_
      exact Qv kk (by first | rfl | exact (forN_stay (moreC w) x (by first | assumption | (simp_all [moreC]; done)) (by omega)).symm) rfl
    | succ r ih =>
      intro i v4 hi hv0
      have hlt : i < 25 := by omega
      refine wp_iload3 (pc' := 5) rfl rfl ?_
      refine wp_bipush (v := nI 25) (pc' := 7) rfl rfl rfl ?_
      refine wp_icmpgeF (pc' := 10) rfl (nI_lt (by omega) (by omega)) rfl ?_
      refine wp_iload2 (pc' := 11) rfl rfl ?_
      refine wp_iload2 (pc' := 12) rfl rfl ?_
      refine wp_callS1 (pc' := 15) rfl rfl rfl rfl rfl rfl ?_
      refine c_beside ?_
      refine Cont.v ?_
      refine wp_iload1 (pc' := 16) rfl rfl ?_
      refine wp_iand (pc' := 17) rfl rfl ?_
      refine wp_ior (pc' := 18) rfl rfl ?_
      refine wp_istore4 (pc' := 20) rfl (by first | rfl | assumption) rfl ?_
      refine wp_iload4 (pc' := 22) rfl rfl ?_
      refine wp_iload2 (pc' := 23) rfl rfl ?_
      refine wp_icmpne (pc' := 26) rfl rfl ?_ ?_
      · intro h23
        refine wp_iload4 (pc' := 31) rfl rfl ?_
        refine wp_istore2 (pc' := 32) rfl (by first | rfl | assumption) rfl ?_
        first | refine wp_iinc3 (w := nI 1) (pc' := 35) rfl rfl rfl (by with_reducible exact nI_add _ _) rfl ?_ | refine wp_iinc3 (w := nI 1) (pc' := 35) rfl rfl rfl rfl rfl ?_
        refine wp_goto rfl ?_
        exact WP.cg (ih (i + 1) _ (by omega) (by first | rfl | assumption)) (lI1 (by first | rfl | (simp only [forN, *, ↓reduceIte]; done) | (simp_all [forN]; done)) (lI1 (by first | rfl | (simp only [forN, *, ↓reduceIte]; done) | (simp_all [forN]; done)) (lI1 (by first | rfl | (simp only [forN, *, ↓reduceIte]; done) | (simp_all [forN]; done)) (lI1 (by first | rfl | (simp only [forN, *, ↓reduceIte]; done) | (simp_all [forN]; done)) (lC1 rfl))))) rfl (by first | rfl | (simp only [forN, *, ↓reduceIte]; done) | (simp_all [forN]; done))
      · intro h23
        refine wp_goto rfl ?_
        refine wp_iload2 (pc' := 39) rfl rfl ?_
        refine wp_iret rfl rfl rfl ?_
        exact Qv kk (by first | rfl | exact (forN_stay (moreC w) x (by first | assumption | (simp_all [moreC]; done)) (by omega)).symm) rfl
  exact WP.cg (lp4 (25 - 0) (0) _ (by omega) (by first | rfl | assumption)) (lI1 (by first | rfl | (simp only [forN, *, ↓reduceIte]; done) | (simp_all [forN]; done)) (lI1 (by first | rfl | (simp only [forN, *, ↓reduceIte]; done) | (simp_all [forN]; done)) (lI1 (by first | rfl | (simp only [forN, *, ↓reduceIte]; done) | (simp_all [forN]; done)) (lI1 (by first | rfl | (simp only [forN, *, ↓reduceIte]; done) | (simp_all [forN]; done)) (lC1 rfl))))) rfl (by first | rfl | (simp only [forN, *, ↓reduceIte]; done) | (simp_all [forN]; done))
def peatS (S : Nat → Nat → Int32) : Int32 := forN (fun c f => if nI 0 < S 1 c then f ||| jshl (nI 1) (nI c) else f) (nI 0) 25
def vw (b : Nat) (I : Nat → Nat → Int32) : Nat → Nat → Int32 := fun k j => I (b + k) j
def openP (S : Nat → Nat → Int32) (c : Nat) : Prop := nI 0 < S 1 c ∧ ¬ nI 3 < S 2 c ∧ S 3 c < nI 90
theorem openP_def (S : Nat → Nat → Int32) (c : Nat) : openP S c ↔ nI 0 < S 1 c ∧ ¬ nI 3 < S 2 c ∧ S 3 c < nI 90 := Iff.rfl

theorem c_peat {d : Nat} {K : Nat → Nat × Nat} {I : Nat → Nat → Int32} {L : Nat → Nat → Int64} {R : Nat → Nat → Option Nat} {n s : Nat} {Q : Lo → Lm → Prop} {b : Nat} (hb : StK K R n b) (kk : Q (.inl (some (.int (peatS (vw b I))))) (K, I, L, R, n, s)) : Ok (d + 1) 47 [.ref b] (K, I, L, R, n, s) Q := by
  obtain ⟨k0, k1, k2, k3, k4, k5, k6, k7, k8, k9, k10, k11, r0, r1, r2, r3, r4, r5, r6, r7, r8, r9, r10, hbn⟩ := id hb
  refine Ok.enter (F := F_47) (ls := [.ref b, lDead, lDead]) rfl rfl ?_
  refine wp_iconst (v := nI 0) (pc' := 1) rfl rfl rfl ?_
  refine wp_istore1 (pc' := 2) rfl (by first | rfl | assumption) rfl ?_
  refine wp_iconst (v := nI 0) (pc' := 3) rfl rfl rfl ?_
  refine wp_istore2 (pc' := 4) rfl (by first | rfl | assumption) rfl ?_
  have lp4 : ∀ r (i : Nat), i + r = 25 → WP d F_47 4 [.ref b, .int (forN (fun c f => if nI 0 < I (b + 1) c then f ||| jshl (nI 1) (nI c) else f) (nI 0) i), .int (nI i)] [] (K, I, L, R, n, s) Q := by
    intro r; induction r with
    | zero =>
      intro i hi 
      have hi2 : i = 25 := by omega
      subst hi2
      refine wp_iload2 (pc' := 5) rfl rfl ?_
      refine wp_bipush (v := nI 25) (pc' := 7) rfl rfl rfl ?_
      refine wp_icmpgeT rfl (nI_nlt (by omega) (by omega)) ?_
      refine wp_iload1 (pc' := 32) rfl rfl ?_
      refine wp_iret rfl rfl rfl ?_
      exact kk
    | succ r ih =>
      intro i hi 
      have hlt : i < 25 := by omega
      refine wp_iload2 (pc' := 5) rfl rfl ?_
      refine wp_bipush (v := nI 25) (pc' := 7) rfl rfl rfl ?_
      refine wp_icmpgeF (pc' := 10) rfl (nI_lt (by omega) (by omega)) rfl ?_
      refine wp_aload0 (pc' := 11) rfl rfl ?_
      refine wp_getRF (pc' := 14) rfl rfl (by assumption) (by assumption) rfl ?_
      refine wp_iload2 (pc' := 15) rfl rfl ?_
      refine wp_iald _ (pc' := 16) rfl (by assumption) (by with_reducible rfl) (by omega) (by first | decide | assumption | omega) rfl ?_
      refine wp_ifle (pc' := 19) rfl rfl ?_ ?_
      · intro h16
        first | refine wp_iinc2 (w := nI 1) (pc' := 28) rfl rfl rfl (by with_reducible exact nI_add _ _) rfl ?_ | refine wp_iinc2 (w := nI 1) (pc' := 28) rfl rfl rfl rfl rfl ?_
        refine wp_goto rfl ?_
        exact WP.cg (ih (i + 1) (by omega)) (lC1 (lI1 (by first | rfl | (simp only [forN, *, ↓reduceIte]; done) | (simp_all [forN]; done)) (lI1 (by first | rfl | (simp only [forN, *, ↓reduceIte]; done) | (simp_all [forN]; done)) rfl))) rfl (by first | rfl | (simp only [forN, *, ↓reduceIte]; done) | (simp_all [forN]; done))
      · intro h16
        refine wp_iload1 (pc' := 20) rfl rfl ?_
        refine wp_iconst (v := nI 1) (pc' := 21) rfl rfl rfl ?_
        refine wp_iload2 (pc' := 22) rfl rfl ?_
        refine wp_ishl (pc' := 23) rfl rfl ?_
        refine wp_ior (pc' := 24) rfl rfl ?_
        refine wp_istore1 (pc' := 25) rfl (by first | rfl | assumption) rfl ?_
        first | refine wp_iinc2 (w := nI 1) (pc' := 28) rfl rfl rfl (by with_reducible exact nI_add _ _) rfl ?_ | refine wp_iinc2 (w := nI 1) (pc' := 28) rfl rfl rfl rfl rfl ?_
        refine wp_goto rfl ?_
        exact WP.cg (ih (i + 1) (by omega)) (lC1 (lI1 (by first | rfl | (simp only [forN, *, ↓reduceIte]; done) | (simp_all [forN]; done)) (lI1 (by first | rfl | (simp only [forN, *, ↓reduceIte]; done) | (simp_all [forN]; done)) rfl))) rfl (by first | rfl | (simp only [forN, *, ↓reduceIte]; done) | (simp_all [forN]; done))
  exact WP.cg (lp4 (25 - 0) (0) (by omega)) (lC1 (lI1 (by first | rfl | (simp only [forN, *, ↓reduceIte]; done) | (simp_all [forN]; done)) (lI1 (by first | rfl | (simp only [forN, *, ↓reduceIte]; done) | (simp_all [forN]; done)) rfl))) rfl (by first | rfl | (simp only [forN, *, ↓reduceIte]; done) | (simp_all [forN]; done))
