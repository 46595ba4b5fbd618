/-! A LAW: a line holds, the sum of a kind -/
def LawK (K : Nat → Nat × Nat) (R : Nat → Nat → Option Nat) (n la m z : Nat) : Prop :=
  (K la).1 = 7 ∧ K (la + 1) = (50, m) ∧ K (la + 2) = (50, m) ∧ K (la + 3) = (50, m + 1) ∧ K (la + 4) = (50, z) ∧ K (la + 5) = (50, z + 1) ∧
  R la 1 = some (la + 1) ∧ R la 2 = some (la + 2) ∧ R la 3 = some (la + 3) ∧ R la 4 = some (la + 4) ∧ R la 5 = some (la + 5) ∧ la + 6 ≤ n ∧ m ≤ 12 ∧ z ≤ 400
/-- a law's numbers: its lines, where each begins -/
def LawN (I : Nat → Nat → Int32) (la m z : Nat) (bg : Nat → Nat) : Prop := I la 0 = nI m ∧ (∀ l, l ≤ m → I (la + 3) l = nI (bg l)) ∧ (∀ l, l < m → bg l ≤ bg (l + 1)) ∧ (∀ l, l ≤ m → bg l ≤ z)
theorem upr_same {α : Type} {f : Nat → Nat → α} {a : Nat} {g : Nat → α} : upr f a g a = g := by unfold upr; rw [if_pos rfl]
theorem upr_id {α : Type} {f : Nat → Nat → α} {a : Nat} : upr f a (f a) = f := by
  funext i; unfold upr
  by_cases h : i = a
  · rw [if_pos h, h]
  · rw [if_neg h]
theorem upr_upr {α : Type} {f : Nat → Nat → α} {a : Nat} {g h : Nat → α} : upr (upr f a g) a h = upr f a h := by
  funext i; unfold upr
  by_cases e : i = a
  · rw [if_pos e, if_pos e]
  · rw [if_neg e, if_neg e, if_neg e]
theorem up2_upr {α : Type} {f : Nat → Nat → α} {a j : Nat} {g : Nat → α} {v : α} : up2 (upr f a g) a j v = upr f a (up1 g j v) := by
  funext i l
  by_cases h : i = a
  · subst h; rw [up2_same, upr_same, upr_same]; rfl
  · rw [up2_row h, upr_ne h, upr_ne h]
theorem valC_upr {I : Nat → Nat → Int32} {b c a : Nat} {dr w : Int32} {g : Nat → Int32} (h : a < b ∨ b + 12 ≤ a) : valC (upr I a g) b c dr w = valC I b c dr w := by
  unfold valC
  rw [upr_ne (show b + 1 ≠ a by omega), upr_ne (show b + 2 ≠ a by omega), upr_ne (show b + 3 ≠ a by omega), upr_ne (show b ≠ a by omega)]
def hstep (val : Int32 → Int32) (w : Int32) (p : Nat × (Nat → Int32)) : Nat × (Nat → Int32) :=
  if w < nI 1010 then (p.1 + 1, up1 p.2 p.1 (if w < nI 1000 then w else val w))
  else if w = nI 1010 ∧ nI 0 < nI p.1 then (p.1, up1 p.2 (p.1 - 1) (nI 1 - p.2 (p.1 - 1)))
  else if nI 1 < nI p.1 then (p.1 - 1, up1 p.2 (p.1 - 1 - 1) (joinC w (p.2 (p.1 - 1 - 1)) (p.2 (p.1 - 1)))) else p
def hrunC (I : Nat → Nat → Int32) (la b c : Nat) (dr : Int32) (bg : Nat) (k : Nat) : Nat × (Nat → Int32) := forN (fun j p => hstep (valC I b c dr) (I (la + 4) (bg + j)) p) (0, I (la + 5)) k
theorem hstep_le (val : Int32 → Int32) (w : Int32) (p : Nat × (Nat → Int32)) : (hstep val w p).1 ≤ p.1 + 1 := by
  unfold hstep
  split
  · exact Nat.le_refl _
  · split
    · exact Nat.le_succ _
    · split
      · show p.1 - 1 ≤ p.1 + 1; omega
      · exact Nat.le_succ _
theorem hrunC_le {I : Nat → Nat → Int32} {la b c : Nat} {dr : Int32} {bg : Nat} : ∀ k, (hrunC I la b c dr bg k).1 ≤ k
  | 0 => Nat.le_refl _
  | k + 1 => Nat.le_trans (hstep_le _ _ _) (Nat.succ_le_succ (hrunC_le k))
abbrev holdP (I : Nat → Nat → Int32) (la b c : Nat) (dr : Int32) (bg k : Nat) : Prop := nI (hrunC I la b c dr bg k).1 = nI 0 ∨ ¬ (hrunC I la b c dr bg k).2 0 = nI 0

theorem c_holds {d : Nat} {K : Nat → Nat × Nat} {I : Nat → Nat → Int32} {L : Nat → Nat → Int64} {R : Nat → Nat → Option Nat} {n s : Nat} {Q : Lo → Lm → Prop} {la b c l m z bg0 bg1 : Nat} {dr : Int32} (hla : LawK K R n la m z) (hb : StK K R n b) (hc : c < 25) (hl : l < m) (h0 : I (la + 3) l = nI bg0) (h1 : I (la + 3) (l + 1) = nI bg1) (h01 : bg0 ≤ bg1) (h1z : bg1 ≤ z) (hlb : la + 6 ≤ b ∨ b + 12 ≤ la) (kk : Q (.inl (some (.int (if holdP I la b c dr bg0 (bg1 - bg0) then nI 1 else nI 0)))) (K, upr I (la + 5) (hrunC I la b c dr bg0 (bg1 - bg0)).2, L, R, n, s)) : Ok (d + 2) 34 [.ref la, .int (nI l), .ref b, .int (nI c), .int dr] (K, I, L, R, n, s) Q := by
  obtain ⟨k0, k1, k2, k3, k4, k5, k6, k7, k8, k9, k10, k11, r0, r1, r2, r3, r4, r5, r6, r7, r8, r9, r10, hbn⟩ := id hb
  obtain ⟨q0, q1, q2, q3, q4, q5, p1, p2, p3, p4, p5, hln, hm12, hz⟩ := id hla
  refine Ok.enter (F := F_34) (ls := [.ref la, .int (nI l), .ref b, .int (nI c), .int dr, lDead, lDead, lDead]) rfl rfl ?_
  refine wp_iconst (v := nI 0) (pc' := 1) rfl rfl rfl ?_
  refine wp_istore5 (pc' := 3) rfl (by first | rfl | assumption) rfl ?_
  refine wp_aload0 (pc' := 4) rfl rfl ?_
  refine wp_getRF (pc' := 7) rfl rfl (by assumption) (by assumption) rfl ?_
  refine wp_iload1 (pc' := 8) rfl rfl ?_
  refine wp_iald _ (pc' := 9) rfl (by assumption) (by with_reducible rfl) (by omega) (by first | decide | assumption | omega) rfl ?_
  rw [h0]
  refine wp_istore6 (pc' := 11) rfl (by first | rfl | assumption) rfl ?_
  have lp11 : ∀ r (j : Nat) (v7 : Value), j + r = (bg1 - bg0) → isL v7 = false → WP (d + 1) F_34 11 [.ref la, .int (nI l), .ref b, .int (nI c), .int dr, .int (nI (hrunC I la b c dr bg0 j).1), .int (nI (bg0 + j)), v7] [] (K, upr I (la + 5) (hrunC I la b c dr bg0 j).2, L, R, n, s) Q := by
    intro r; induction r with
    | zero =>
      intro j v7 hi hv0
      have hi2 : j = (bg1 - bg0) := by omega
      refine wp_iload6 (pc' := 13) rfl rfl ?_
      refine wp_aload0 (pc' := 14) rfl rfl ?_
      refine wp_getRF (pc' := 17) rfl rfl (by assumption) (by assumption) rfl ?_
      refine wp_iload1 (pc' := 18) rfl rfl ?_
      refine wp_iconst (v := nI 1) (pc' := 19) rfl rfl rfl ?_
      first | refine wp_iaddN (pc' := 20) rfl (by with_reducible rfl) (by with_reducible rfl) rfl ?_ | refine wp_iadd (pc' := 20) rfl rfl ?_
      refine wp_iald _ (pc' := 21) rfl (by assumption) (by with_reducible rfl) (by omega) (by first | decide | assumption | omega) rfl ?_
      rw [upr_ne (show la + 3 ≠ la + 5 by omega), h1]
      refine wp_icmpgeT rfl (nI_nlt (by omega) (by omega)) ?_
      refine wp_iload5 (pc' := 159) rfl rfl ?_
      first | refine wp_ifeqB (pc' := 162) rfl rfl ?_ ?_ | refine wp_ifeq (pc' := 162) rfl rfl ?_ ?_
      · intro h159
        refine wp_iconst (v := nI 1) (pc' := 172) rfl rfl rfl ?_
        refine wp_goto rfl ?_
        refine wp_iret rfl rfl (by first | rfl | exact nar_if) ?_
        subst hi2
        exact Qv kk (by first | rfl | (simp only [holdP, *, ↓reduceIte, true_or, or_true, not_true_eq_false, not_false_eq_true, or_self]; done)) rfl
      · intro h159
        refine wp_aload0 (pc' := 163) rfl rfl ?_
        refine wp_getRF (pc' := 166) rfl rfl (by assumption) (by assumption) rfl ?_
        refine wp_iconst (v := nI 0) (pc' := 167) rfl rfl rfl ?_
        refine wp_iald _ (pc' := 168) rfl (by assumption) (by with_reducible rfl) (by omega) (by first | decide | assumption | omega) rfl ?_
        rw [upr_same]
        first | refine wp_ifeqB (pc' := 171) rfl rfl ?_ ?_ | refine wp_ifeq (pc' := 171) rfl rfl ?_ ?_
        · intro h168
          refine wp_iconst (v := nI 0) (pc' := 176) rfl rfl rfl ?_
          refine wp_iret rfl rfl (by first | rfl | exact nar_if) ?_
          subst hi2
          exact Qv kk (by first | rfl | (simp only [holdP, *, ↓reduceIte, true_or, or_true, not_true_eq_false, not_false_eq_true, or_self]; done)) rfl
        · intro h168
          refine wp_iconst (v := nI 1) (pc' := 172) rfl rfl rfl ?_
          refine wp_goto rfl ?_
          refine wp_iret rfl rfl (by first | rfl | exact nar_if) ?_
          subst hi2
          exact Qv kk (by first | rfl | (simp only [holdP, *, ↓reduceIte, true_or, or_true, not_true_eq_false, not_false_eq_true, or_self]; done)) rfl
    | succ r ih =>
      intro j v7 hi hv0
      have hlt : j < (bg1 - bg0) := by omega
      obtain ⟨T, f, hp⟩ : ∃ T f, hrunC I la b c dr bg0 j = (T, f) := ⟨_, _, rfl⟩
      have hs : hrunC I la b c dr bg0 (j + 1) = hstep (valC I b c dr) (I (la + 4) (bg0 + j)) (T, f) := by rw [← hp]; rfl
      have hTj : T ≤ j := by have := hrunC_le (I := I) (la := la) (b := b) (c := c) (dr := dr) (bg := bg0) j; rw [hp] at this; exact this
      rw [hp]
      refine wp_iload6 (pc' := 13) rfl rfl ?_
      refine wp_aload0 (pc' := 14) rfl rfl ?_
      refine wp_getRF (pc' := 17) rfl rfl (by assumption) (by assumption) rfl ?_
      refine wp_iload1 (pc' := 18) rfl rfl ?_
      refine wp_iconst (v := nI 1) (pc' := 19) rfl rfl rfl ?_
      first | refine wp_iaddN (pc' := 20) rfl (by with_reducible rfl) (by with_reducible rfl) rfl ?_ | refine wp_iadd (pc' := 20) rfl rfl ?_
      refine wp_iald _ (pc' := 21) rfl (by assumption) (by with_reducible rfl) (by omega) (by first | decide | assumption | omega) rfl ?_
      rw [upr_ne (show la + 3 ≠ la + 5 by omega), h1]
      refine wp_icmpgeF (pc' := 24) rfl (nI_lt (by omega) (by omega)) rfl ?_
      refine wp_aload0 (pc' := 25) rfl rfl ?_
      refine wp_getRF (pc' := 28) rfl rfl (by assumption) (by assumption) rfl ?_
      refine wp_iload6 (pc' := 30) rfl rfl ?_
      refine wp_iald _ (pc' := 31) rfl (by assumption) (by with_reducible rfl) (by omega) (by first | decide | assumption | omega) rfl ?_
      rw [upr_ne (show la + 4 ≠ la + 5 by omega)]
      refine wp_istore7 (pc' := 33) rfl (by first | rfl | assumption) rfl ?_
      refine wp_iload7 (pc' := 35) rfl rfl ?_
      refine wp_sipush (v := nI 1010) (pc' := 38) rfl rfl rfl ?_
      refine wp_icmpge (pc' := 41) rfl rfl ?_ ?_
      · intro h38
        refine wp_iload7 (pc' := 78) rfl rfl ?_
        refine wp_sipush (v := nI 1010) (pc' := 81) rfl rfl rfl ?_
        refine wp_icmpne (pc' := 84) rfl rfl ?_ ?_
        · intro h81
          refine wp_iload5 (pc' := 114) rfl rfl ?_
          refine wp_iconst (v := nI 1) (pc' := 115) rfl rfl rfl ?_
          refine wp_icmple (pc' := 118) rfl rfl ?_ ?_
          · intro h115
            first | refine wp_iinc6 (w := nI 1) (pc' := 154) rfl rfl rfl (by with_reducible exact nI_add _ _) rfl ?_ | refine wp_iinc6 (w := nI 1) (pc' := 154) rfl rfl rfl rfl rfl ?_
            refine wp_goto rfl ?_
            exact WP.cg (ih (j + 1) _ (by omega) (by first | rfl | assumption)) (lC1 (lI1 (by first | rfl | (rw [hs]; simp +decide only [hstep, *, ↓reduceIte, and_self, and_true, true_and, and_false, false_and]; done)) (lC1 (lI1 (by first | rfl | (rw [hs]; simp +decide only [hstep, *, ↓reduceIte, and_self, and_true, true_and, and_false, false_and]; done)) (lI1 (by first | rfl | (rw [hs]; simp +decide only [hstep, *, ↓reduceIte, and_self, and_true, true_and, and_false, false_and]; done)) (lI1 (by first | rfl | (rw [hs]; simp +decide only [hstep, *, ↓reduceIte, and_self, and_true, true_and, and_false, false_and]; done)) (lI1 (by first | rfl | (rw [hs]; simp +decide only [hstep, *, ↓reduceIte, and_self, and_true, true_and, and_false, false_and]; done)) (lC1 rfl)))))))) rfl (by rw [hs]; first | (simp +decide only [hstep, up2_upr, *, ↓reduceIte, and_self, and_true, true_and, and_false, false_and]; done))
          · intro h115
            have hT1 := (nI_ltI (by omega) (by omega)).mp h115
            first | refine wp_iinc5 (w := (-1)) (pc' := 121) rfl rfl rfl (by with_reducible exact nI_sub1 (by omega)) rfl ?_ | refine wp_iinc5 (w := (-1)) (pc' := 121) rfl rfl rfl rfl rfl ?_
            refine wp_aload0 (pc' := 122) rfl rfl ?_
            refine wp_getRF (pc' := 125) rfl rfl (by assumption) (by assumption) rfl ?_
            refine wp_iload5 (pc' := 127) rfl rfl ?_
            refine wp_iconst (v := nI 1) (pc' := 128) rfl rfl rfl ?_
            first | refine wp_isubN (pc' := 129) rfl (by with_reducible rfl) (by with_reducible rfl) (by omega) rfl ?_ | refine wp_isub (pc' := 129) rfl rfl ?_
            refine wp_iload7 (pc' := 131) rfl rfl ?_
            refine wp_aload0 (pc' := 132) rfl rfl ?_
            refine wp_getRF (pc' := 135) rfl rfl (by assumption) (by assumption) rfl ?_
            refine wp_iload5 (pc' := 137) rfl rfl ?_
            refine wp_iconst (v := nI 1) (pc' := 138) rfl rfl rfl ?_
            first | refine wp_isubN (pc' := 139) rfl (by with_reducible rfl) (by with_reducible rfl) (by omega) rfl ?_ | refine wp_isub (pc' := 139) rfl rfl ?_
            refine wp_iald _ (pc' := 140) rfl (by assumption) (by with_reducible rfl) (by omega) (by first | decide | assumption | omega) rfl ?_
            rw [upr_same]
            refine wp_aload0 (pc' := 141) rfl rfl ?_
            refine wp_getRF (pc' := 144) rfl rfl (by assumption) (by assumption) rfl ?_
            refine wp_iload5 (pc' := 146) rfl rfl ?_
            refine wp_iald _ (pc' := 147) rfl (by assumption) (by with_reducible rfl) (by omega) (by first | decide | assumption | omega) rfl ?_
            rw [upr_same]
            refine wp_callS3 (pc' := 150) rfl rfl rfl rfl rfl rfl ?_
            refine c_join ?_
            refine Cont.v ?_
            refine wp_iast _ (pc' := 151) rfl (by assumption) (by omega) (by with_reducible rfl) (by omega) (by first | decide | assumption | omega) rfl ?_
            first | refine wp_iinc6 (w := nI 1) (pc' := 154) rfl rfl rfl (by with_reducible exact nI_add _ _) rfl ?_ | refine wp_iinc6 (w := nI 1) (pc' := 154) rfl rfl rfl rfl rfl ?_
            refine wp_goto rfl ?_
            exact WP.cg (ih (j + 1) _ (by omega) (by first | rfl | assumption)) (lC1 (lI1 (by first | rfl | (rw [hs]; simp +decide only [hstep, *, ↓reduceIte, and_self, and_true, true_and, and_false, false_and]; done)) (lC1 (lI1 (by first | rfl | (rw [hs]; simp +decide only [hstep, *, ↓reduceIte, and_self, and_true, true_and, and_false, false_and]; done)) (lI1 (by first | rfl | (rw [hs]; simp +decide only [hstep, *, ↓reduceIte, and_self, and_true, true_and, and_false, false_and]; done)) (lI1 (by first | rfl | (rw [hs]; simp +decide only [hstep, *, ↓reduceIte, and_self, and_true, true_and, and_false, false_and]; done)) (lI1 (by first | rfl | (rw [hs]; simp +decide only [hstep, *, ↓reduceIte, and_self, and_true, true_and, and_false, false_and]; done)) (lC1 rfl)))))))) rfl (by rw [hs]; first | (simp +decide only [hstep, up2_upr, *, ↓reduceIte, and_self, and_true, true_and, and_false, false_and]; done))
        · intro h81
          refine wp_iload5 (pc' := 86) rfl rfl ?_
          refine wp_ifle (pc' := 89) rfl rfl ?_ ?_
          · intro h86
            refine wp_iload5 (pc' := 114) rfl rfl ?_
            refine wp_iconst (v := nI 1) (pc' := 115) rfl rfl rfl ?_
            refine wp_icmple (pc' := 118) rfl rfl ?_ ?_
            · intro h115
              first | refine wp_iinc6 (w := nI 1) (pc' := 154) rfl rfl rfl (by with_reducible exact nI_add _ _) rfl ?_ | refine wp_iinc6 (w := nI 1) (pc' := 154) rfl rfl rfl rfl rfl ?_
              refine wp_goto rfl ?_
              exact WP.cg (ih (j + 1) _ (by omega) (by first | rfl | assumption)) (lC1 (lI1 (by first | rfl | (rw [hs]; simp +decide only [hstep, *, ↓reduceIte, and_self, and_true, true_and, and_false, false_and]; done)) (lC1 (lI1 (by first | rfl | (rw [hs]; simp +decide only [hstep, *, ↓reduceIte, and_self, and_true, true_and, and_false, false_and]; done)) (lI1 (by first | rfl | (rw [hs]; simp +decide only [hstep, *, ↓reduceIte, and_self, and_true, true_and, and_false, false_and]; done)) (lI1 (by first | rfl | (rw [hs]; simp +decide only [hstep, *, ↓reduceIte, and_self, and_true, true_and, and_false, false_and]; done)) (lI1 (by first | rfl | (rw [hs]; simp +decide only [hstep, *, ↓reduceIte, and_self, and_true, true_and, and_false, false_and]; done)) (lC1 rfl)))))))) rfl (by rw [hs]; first | (simp +decide only [hstep, up2_upr, *, ↓reduceIte, and_self, and_true, true_and, and_false, false_and]; done))
            · intro h115
              have hT1 := (nI_ltI (by omega) (by omega)).mp h115
              first | refine wp_iinc5 (w := (-1)) (pc' := 121) rfl rfl rfl (by with_reducible exact nI_sub1 (by omega)) rfl ?_ | refine wp_iinc5 (w := (-1)) (pc' := 121) rfl rfl rfl rfl rfl ?_
              refine wp_aload0 (pc' := 122) rfl rfl ?_
              refine wp_getRF (pc' := 125) rfl rfl (by assumption) (by assumption) rfl ?_
              refine wp_iload5 (pc' := 127) rfl rfl ?_
              refine wp_iconst (v := nI 1) (pc' := 128) rfl rfl rfl ?_
              first | refine wp_isubN (pc' := 129) rfl (by with_reducible rfl) (by with_reducible rfl) (by omega) rfl ?_ | refine wp_isub (pc' := 129) rfl rfl ?_
              refine wp_iload7 (pc' := 131) rfl rfl ?_
              refine wp_aload0 (pc' := 132) rfl rfl ?_
              refine wp_getRF (pc' := 135) rfl rfl (by assumption) (by assumption) rfl ?_
              refine wp_iload5 (pc' := 137) rfl rfl ?_
              refine wp_iconst (v := nI 1) (pc' := 138) rfl rfl rfl ?_
              first | refine wp_isubN (pc' := 139) rfl (by with_reducible rfl) (by with_reducible rfl) (by omega) rfl ?_ | refine wp_isub (pc' := 139) rfl rfl ?_
              refine wp_iald _ (pc' := 140) rfl (by assumption) (by with_reducible rfl) (by omega) (by first | decide | assumption | omega) rfl ?_
              rw [upr_same]
              refine wp_aload0 (pc' := 141) rfl rfl ?_
              refine wp_getRF (pc' := 144) rfl rfl (by assumption) (by assumption) rfl ?_
              refine wp_iload5 (pc' := 146) rfl rfl ?_
              refine wp_iald _ (pc' := 147) rfl (by assumption) (by with_reducible rfl) (by omega) (by first | decide | assumption | omega) rfl ?_
              rw [upr_same]
              refine wp_callS3 (pc' := 150) rfl rfl rfl rfl rfl rfl ?_
              refine c_join ?_
              refine Cont.v ?_
              refine wp_iast _ (pc' := 151) rfl (by assumption) (by omega) (by with_reducible rfl) (by omega) (by first | decide | assumption | omega) rfl ?_
              first | refine wp_iinc6 (w := nI 1) (pc' := 154) rfl rfl rfl (by with_reducible exact nI_add _ _) rfl ?_ | refine wp_iinc6 (w := nI 1) (pc' := 154) rfl rfl rfl rfl rfl ?_
              refine wp_goto rfl ?_
              exact WP.cg (ih (j + 1) _ (by omega) (by first | rfl | assumption)) (lC1 (lI1 (by first | rfl | (rw [hs]; simp +decide only [hstep, *, ↓reduceIte, and_self, and_true, true_and, and_false, false_and]; done)) (lC1 (lI1 (by first | rfl | (rw [hs]; simp +decide only [hstep, *, ↓reduceIte, and_self, and_true, true_and, and_false, false_and]; done)) (lI1 (by first | rfl | (rw [hs]; simp +decide only [hstep, *, ↓reduceIte, and_self, and_true, true_and, and_false, false_and]; done)) (lI1 (by first | rfl | (rw [hs]; simp +decide only [hstep, *, ↓reduceIte, and_self, and_true, true_and, and_false, false_and]; done)) (lI1 (by first | rfl | (rw [hs]; simp +decide only [hstep, *, ↓reduceIte, and_self, and_true, true_and, and_false, false_and]; done)) (lC1 rfl)))))))) rfl (by rw [hs]; first | (simp +decide only [hstep, up2_upr, *, ↓reduceIte, and_self, and_true, true_and, and_false, false_and]; done))
          · intro h86
            have hT0 := (nI_ltI (by omega) (by omega)).mp h86
            refine wp_aload0 (pc' := 90) rfl rfl ?_
            refine wp_getRF (pc' := 93) rfl rfl (by assumption) (by assumption) rfl ?_
            refine wp_iload5 (pc' := 95) rfl rfl ?_
            refine wp_iconst (v := nI 1) (pc' := 96) rfl rfl rfl ?_
            first | refine wp_isubN (pc' := 97) rfl (by with_reducible rfl) (by with_reducible rfl) (by omega) rfl ?_ | refine wp_isub (pc' := 97) rfl rfl ?_
            refine wp_iconst (v := nI 1) (pc' := 98) rfl rfl rfl ?_
            refine wp_aload0 (pc' := 99) rfl rfl ?_
            refine wp_getRF (pc' := 102) rfl rfl (by assumption) (by assumption) rfl ?_
            refine wp_iload5 (pc' := 104) rfl rfl ?_
            refine wp_iconst (v := nI 1) (pc' := 105) rfl rfl rfl ?_
            first | refine wp_isubN (pc' := 106) rfl (by with_reducible rfl) (by with_reducible rfl) (by omega) rfl ?_ | refine wp_isub (pc' := 106) rfl rfl ?_
            refine wp_iald _ (pc' := 107) rfl (by assumption) (by with_reducible rfl) (by omega) (by first | decide | assumption | omega) rfl ?_
            rw [upr_same]
            first | refine wp_isubN (pc' := 108) rfl (by with_reducible rfl) (by with_reducible rfl) (by omega) rfl ?_ | refine wp_isub (pc' := 108) rfl rfl ?_
            refine wp_iast _ (pc' := 109) rfl (by assumption) (by omega) (by with_reducible rfl) (by omega) (by first | decide | assumption | omega) rfl ?_
            refine wp_goto rfl ?_
            first | refine wp_iinc6 (w := nI 1) (pc' := 154) rfl rfl rfl (by with_reducible exact nI_add _ _) rfl ?_ | refine wp_iinc6 (w := nI 1) (pc' := 154) rfl rfl rfl rfl rfl ?_
            refine wp_goto rfl ?_
            exact WP.cg (ih (j + 1) _ (by omega) (by first | rfl | assumption)) (lC1 (lI1 (by first | rfl | (rw [hs]; simp +decide only [hstep, *, ↓reduceIte, and_self, and_true, true_and, and_false, false_and]; done)) (lC1 (lI1 (by first | rfl | (rw [hs]; simp +decide only [hstep, *, ↓reduceIte, and_self, and_true, true_and, and_false, false_and]; done)) (lI1 (by first | rfl | (rw [hs]; simp +decide only [hstep, *, ↓reduceIte, and_self, and_true, true_and, and_false, false_and]; done)) (lI1 (by first | rfl | (rw [hs]; simp +decide only [hstep, *, ↓reduceIte, and_self, and_true, true_and, and_false, false_and]; done)) (lI1 (by first | rfl | (rw [hs]; simp +decide only [hstep, *, ↓reduceIte, and_self, and_true, true_and, and_false, false_and]; done)) (lC1 rfl)))))))) rfl (by rw [hs]; first | (simp +decide only [hstep, up2_upr, *, ↓reduceIte, and_self, and_true, true_and, and_false, false_and]; done))
      · intro h38
        refine wp_aload0 (pc' := 42) rfl rfl ?_
        refine wp_getRF (pc' := 45) rfl rfl (by assumption) (by assumption) rfl ?_
        refine wp_iload5 (pc' := 47) rfl rfl ?_
        refine wp_iload7 (pc' := 49) rfl rfl ?_
        refine wp_sipush (v := nI 1000) (pc' := 52) rfl rfl rfl ?_
        refine wp_icmpge (pc' := 55) rfl rfl ?_ ?_
        · intro h52
          refine wp_iload7 (pc' := 62) rfl rfl ?_
          refine wp_aload2 (pc' := 63) rfl rfl ?_
          refine wp_iload3 (pc' := 64) rfl rfl ?_
          refine wp_iload4 (pc' := 66) rfl rfl ?_
          refine wp_callS4 (pc' := 69) rfl rfl rfl rfl rfl rfl ?_
          refine c_value hb (by omega) ?_
          refine Cont.v ?_
          try rw [valC_upr (show la + 5 < b ∨ b + 12 ≤ la + 5 by omega)]
          refine wp_iast _ (pc' := 70) rfl (by assumption) (by omega) (by with_reducible rfl) (by omega) (by first | decide | assumption | omega) rfl ?_
          first | refine wp_iinc5 (w := nI 1) (pc' := 73) rfl rfl rfl (by with_reducible exact nI_add _ _) rfl ?_ | refine wp_iinc5 (w := nI 1) (pc' := 73) rfl rfl rfl rfl rfl ?_
          refine wp_goto rfl ?_
          first | refine wp_iinc6 (w := nI 1) (pc' := 154) rfl rfl rfl (by with_reducible exact nI_add _ _) rfl ?_ | refine wp_iinc6 (w := nI 1) (pc' := 154) rfl rfl rfl rfl rfl ?_
          refine wp_goto rfl ?_
          exact WP.cg (ih (j + 1) _ (by omega) (by first | rfl | assumption)) (lC1 (lI1 (by first | rfl | (rw [hs]; simp +decide only [hstep, *, ↓reduceIte, and_self, and_true, true_and, and_false, false_and]; done)) (lC1 (lI1 (by first | rfl | (rw [hs]; simp +decide only [hstep, *, ↓reduceIte, and_self, and_true, true_and, and_false, false_and]; done)) (lI1 (by first | rfl | (rw [hs]; simp +decide only [hstep, *, ↓reduceIte, and_self, and_true, true_and, and_false, false_and]; done)) (lI1 (by first | rfl | (rw [hs]; simp +decide only [hstep, *, ↓reduceIte, and_self, and_true, true_and, and_false, false_and]; done)) (lI1 (by first | rfl | (rw [hs]; simp +decide only [hstep, *, ↓reduceIte, and_self, and_true, true_and, and_false, false_and]; done)) (lC1 rfl)))))))) rfl (by rw [hs]; first | (simp +decide only [hstep, up2_upr, *, ↓reduceIte, and_self, and_true, true_and, and_false, false_and]; done))
        · intro h52
          refine wp_iload7 (pc' := 57) rfl rfl ?_
          refine wp_goto rfl ?_
          try rw [valC_upr (show la + 5 < b ∨ b + 12 ≤ la + 5 by omega)]
          refine wp_iast _ (pc' := 70) rfl (by assumption) (by omega) (by with_reducible rfl) (by omega) (by first | decide | assumption | omega) rfl ?_
          first | refine wp_iinc5 (w := nI 1) (pc' := 73) rfl rfl rfl (by with_reducible exact nI_add _ _) rfl ?_ | refine wp_iinc5 (w := nI 1) (pc' := 73) rfl rfl rfl rfl rfl ?_
          refine wp_goto rfl ?_
          first | refine wp_iinc6 (w := nI 1) (pc' := 154) rfl rfl rfl (by with_reducible exact nI_add _ _) rfl ?_ | refine wp_iinc6 (w := nI 1) (pc' := 154) rfl rfl rfl rfl rfl ?_
          refine wp_goto rfl ?_
          exact WP.cg (ih (j + 1) _ (by omega) (by first | rfl | assumption)) (lC1 (lI1 (by first | rfl | (rw [hs]; simp +decide only [hstep, *, ↓reduceIte, and_self, and_true, true_and, and_false, false_and]; done)) (lC1 (lI1 (by first | rfl | (rw [hs]; simp +decide only [hstep, *, ↓reduceIte, and_self, and_true, true_and, and_false, false_and]; done)) (lI1 (by first | rfl | (rw [hs]; simp +decide only [hstep, *, ↓reduceIte, and_self, and_true, true_and, and_false, false_and]; done)) (lI1 (by first | rfl | (rw [hs]; simp +decide only [hstep, *, ↓reduceIte, and_self, and_true, true_and, and_false, false_and]; done)) (lI1 (by first | rfl | (rw [hs]; simp +decide only [hstep, *, ↓reduceIte, and_self, and_true, true_and, and_false, false_and]; done)) (lC1 rfl)))))))) rfl (by rw [hs]; first | (simp +decide only [hstep, up2_upr, *, ↓reduceIte, and_self, and_true, true_and, and_false, false_and]; done))
  exact WP.cg (lp11 ((bg1 - bg0) - 0) (0) _ (by omega) (by first | rfl | assumption)) (lC1 (lI1 (by first | rfl | (simp only [forN, *, ↓reduceIte]; done) | (simp_all [forN]; done)) (lC1 (lI1 (by first | rfl | (simp only [forN, *, ↓reduceIte]; done) | (simp_all [forN]; done)) (lI1 (by first | rfl | (simp only [forN, *, ↓reduceIte]; done) | (simp_all [forN]; done)) (lI1 (by first | rfl | (simp only [forN, *, ↓reduceIte]; done) | (simp_all [forN]; done)) (lI1 (by first | rfl | (simp only [forN, *, ↓reduceIte]; done) | (simp_all [forN]; done)) (lC1 rfl)))))))) rfl (by exact mI1 upr_id.symm)
