/-! THE REFERENCE: ways to the road -/
def wayU (sk : Nat → Nat) (q : Nat) : Nat := 1000 * sk q + 1
def wayK (sk : Nat → Nat) (c q : Nat) : Nat := if q = c then 1000 * sk c else 100000000
def mnN (a : Nat → Nat) (i : Nat) : Nat := forN (fun q x => min x (a q)) 100000000 i
theorem mnN_s {a : Nat → Nat} {i : Nat} : mnN a (i + 1) = min (mnN a i) (a i) := rfl
theorem mnN_le {a : Nat → Nat} : ∀ i, mnN a i ≤ 100000000
  | 0 => Nat.le_refl _
  | i + 1 => by rw [mnN_s]; exact Nat.le_trans (Nat.min_le_left _ _) (mnN_le i)

theorem m_wayOf {d : Nat} {K : Nat → Nat × Nat} {I : Nat → Nat → Int32} {L : Nat → Nat → Int64} {R : Nat → Nat → Option Nat} {n s : Nat} {Q : Lo → Lm → Prop} {sk : Nat → Nat} {c : Nat} {o : RwT} (hT : TK K R n) (hc : c < 25) (hro : RO (I 319) o) (hsk : ∀ q, q < 25 → rsink (I 319) q o = nI (sk q) ∧ sk q ≤ 90000) (kk : ∀ a v g, FixI (wayK sk c) (wayU sk) a → Q (.inl (some (.int (nI (mnN a 5))))) (K, upr (upr I 328 v) 326 g, L, R, n, s)) : Ok (d + 9) 273 [.ref 318, .int (nI c)] (K, I, L, R, n, s) Q := by
  obtain ⟨-, -, hn⟩ := id hT
  refine Ok.enter (F := F_273) (ls := [.ref 318, .int (nI c), lDead, lDead, lDead]) rfl rfl ?_
  refine wp_iconst (v := nI 0) (pc' := 1) rfl rfl rfl ?_
  refine wp_istore2 (pc' := 2) rfl (by first | rfl | assumption) rfl ?_
  have lp2 : ∀ r (i : Nat) (g : Nat → Int32), i + r = 25 → WP (d + 8) F_273 2 [.ref 318, .int (nI c), .int (nI i), lDead, lDead] [] (K, upr (upr I 328 (cpy i (fun q => nI (wayK sk c q)) (I 328))) 326 g, L, R, n, s) Q := by
    intro r; induction r with
    | zero =>
      intro i g hi 
      have hi2 : i = 25 := by omega
      subst hi2
      refine wp_iload2 (pc' := 3) rfl rfl ?_
      refine wp_bipush (v := nI 25) (pc' := 5) rfl rfl rfl ?_
      refine wp_icmpgeT rfl (nI_nlt (by omega) (by omega)) ?_
      have hst : OutI (wayK sk c) (wayU sk) (cpy 25 (fun q => nI (wayK sk c q)) (I 328)) (wayK sk c) := ⟨fun q hq => ⟨cpy_lt hq, by have := (hsk c hc).2; unfold wayK; split <;> omega⟩, fun g hg => hg.1, fun q _ => Nat.le_refl _⟩
      refine wp_iconst (v := nI 1) (pc' := 40) rfl rfl rfl ?_
      refine wp_istore2 (pc' := 41) rfl (by first | rfl | assumption) rfl ?_
      have lp41 : ∀ rb (v : Nat → Int32) (a : Nat → Nat) (f : Bool) (g3 : Nat → Int32) (v3 : Value), sNt a 25 + (if f = true then 1 else 0) ≤ rb → OutI (wayK sk c) (wayU sk) v a → (f = false → Adm (wayK sk c) (wayU sk) a) → WP (d + 8) F_273 41 [.ref 318, .int (nI c), .int (if f = true then nI 1 else nI 0), v3, lDead] [] (K, upr (upr I 328 v) 326 g3, L, R, n, s) Q := by
        intro rb; induction rb with
        | zero =>
          intro v a f g3 v3 hib hvb0 hvb1
          obtain rfl : f = false := by cases f; rfl; exact absurd hib (by rw [if_pos rfl]; omega)
          refine wp_iload2 (pc' := 42) rfl rfl ?_
          refine wp_ifeqT rfl rfl ?_
          refine wp_pool (v := .int (nI 100000000)) (pc' := 85) rfl rfl rfl rfl rfl ?_
          refine wp_istore3 (pc' := 86) rfl (by first | rfl | assumption) rfl ?_
          refine wp_iconst (v := nI 0) (pc' := 87) rfl rfl rfl ?_
          refine wp_istore4 (pc' := 89) rfl (by first | rfl | assumption) rfl ?_
          have lp89 : ∀ rc (i : Nat) (v2 : Value), i + rc = 5 → isL v2 = false → WP (d + 8) F_273 89 [.ref 318, .int (nI c), v2, .int (nI (mnN a i)), .int (nI i)] [] (K, upr (upr I 328 v) 326 g3, L, R, n, s) Q := by
            intro rc; induction rc with
            | zero =>
              intro i v2 hic hvc0
              have hi2c : i = 5 := by omega
              subst hi2c
              refine wp_iload4 (pc' := 91) rfl rfl ?_
              refine wp_iconst (v := nI 5) (pc' := 92) rfl rfl rfl ?_
              refine wp_icmpgeT rfl (nI_nlt (by omega) (by omega)) ?_
              refine wp_iload3 (pc' := 114) rfl rfl ?_
              refine wp_iret rfl rfl rfl ?_
              first | exact kk a v g3 ⟨hvb1 rfl, hvb0.2.1⟩ | exact kk a v g3 ⟨hvb1 (Bool.eq_false_iff.mpr h42), hvb0.2.1⟩
            | succ rc ihc =>
              intro i v2 hic hvc0
              have hltc : i < 5 := by omega
              have hm1 := mnN_le (a := a) i
              have hm2 := hvb0.1 i (by omega)
              refine wp_iload4 (pc' := 91) rfl rfl ?_
              refine wp_iconst (v := nI 5) (pc' := 92) rfl rfl rfl ?_
              refine wp_icmpgeF (pc' := 95) rfl (nI_lt (by omega) (by omega)) rfl ?_
              refine wp_iload3 (pc' := 96) rfl rfl ?_
              refine wp_aload0 (pc' := 97) rfl rfl ?_
              refine wp_getRF (pc' := 100) rfl rfl (by first | exact TK.k1 hT rfl | exact TK.kk hT rfl | exact TK.r hT rfl | assumption) (by first | exact TK.k1 hT rfl | exact TK.kk hT rfl | exact TK.r hT rfl | assumption) rfl ?_
              refine wp_iload4 (pc' := 102) rfl rfl ?_
              refine wp_iald _ (pc' := 103) rfl (by first | exact TK.k1 hT rfl | exact TK.kk hT rfl | exact TK.r hT rfl | assumption) (by with_reducible rfl) (by omega) (by first | decide | assumption | omega) rfl ?_
              refine wp_min (pc' := 106) rfl rfl rfl rfl ?_
              refine wp_istore3 (pc' := 107) rfl (by first | rfl | assumption) rfl ?_
              first | refine wp_iinc4 (w := nI 1) (pc' := 110) rfl rfl rfl (by with_reducible exact nI_add _ _) rfl ?_ | refine wp_iinc4 (w := nI 1) (pc' := 110) rfl rfl rfl rfl rfl ?_
              refine wp_goto rfl ?_
              exact WP.cg (ihc (i + 1) _ (by omega) (by first | rfl | assumption)) (lC1 (lI1 (by first | with_reducible rfl | (rw [upr_ne (show (328 : Nat) ≠ 326 by decide), upr_same, hm2.1, nI_min (by omega) (by omega), mnN_s]; done)) (lC1 (lI1 (by first | with_reducible rfl | (rw [upr_ne (show (328 : Nat) ≠ 326 by decide), upr_same, hm2.1, nI_min (by omega) (by omega), mnN_s]; done)) (lI1 (by first | with_reducible rfl | (rw [upr_ne (show (328 : Nat) ≠ 326 by decide), upr_same, hm2.1, nI_min (by omega) (by omega), mnN_s]; done)) rfl))))) rfl (by rfl)
          exact WP.cg (lp89 (5 - (0)) (0) _ (by omega) (by first | rfl | assumption)) (lC1 (lI1 (by rfl) (lC1 (lI1 (by rfl) (lI1 (by rfl) rfl))))) rfl (by rfl)
        | succ rb ihb =>
          intro v a f g3 v3 hib hvb0 hvb1
          refine wp_iload2 (pc' := 42) rfl rfl ?_
          first | refine wp_ifeqB (pc' := 45) rfl rfl ?_ ?_ | refine wp_ifeq (pc' := 45) rfl rfl ?_ ?_
          · intro h42
            refine wp_pool (v := .int (nI 100000000)) (pc' := 85) rfl rfl rfl rfl rfl ?_
            refine wp_istore3 (pc' := 86) rfl (by first | rfl | assumption) rfl ?_
            refine wp_iconst (v := nI 0) (pc' := 87) rfl rfl rfl ?_
            refine wp_istore4 (pc' := 89) rfl (by first | rfl | assumption) rfl ?_
            have lp89 : ∀ rc (i : Nat) (v2 : Value), i + rc = 5 → isL v2 = false → WP (d + 8) F_273 89 [.ref 318, .int (nI c), v2, .int (nI (mnN a i)), .int (nI i)] [] (K, upr (upr I 328 v) 326 g3, L, R, n, s) Q := by
              intro rc; induction rc with
              | zero =>
                intro i v2 hic hvc0
                have hi2c : i = 5 := by omega
                subst hi2c
                refine wp_iload4 (pc' := 91) rfl rfl ?_
                refine wp_iconst (v := nI 5) (pc' := 92) rfl rfl rfl ?_
                refine wp_icmpgeT rfl (nI_nlt (by omega) (by omega)) ?_
                refine wp_iload3 (pc' := 114) rfl rfl ?_
                refine wp_iret rfl rfl rfl ?_
                first | exact kk a v g3 ⟨hvb1 rfl, hvb0.2.1⟩ | exact kk a v g3 ⟨hvb1 (Bool.eq_false_iff.mpr h42), hvb0.2.1⟩
              | succ rc ihc =>
                intro i v2 hic hvc0
                have hltc : i < 5 := by omega
                have hm1 := mnN_le (a := a) i
                have hm2 := hvb0.1 i (by omega)
                refine wp_iload4 (pc' := 91) rfl rfl ?_
                refine wp_iconst (v := nI 5) (pc' := 92) rfl rfl rfl ?_
                refine wp_icmpgeF (pc' := 95) rfl (nI_lt (by omega) (by omega)) rfl ?_
                refine wp_iload3 (pc' := 96) rfl rfl ?_
                refine wp_aload0 (pc' := 97) rfl rfl ?_
                refine wp_getRF (pc' := 100) rfl rfl (by first | exact TK.k1 hT rfl | exact TK.kk hT rfl | exact TK.r hT rfl | assumption) (by first | exact TK.k1 hT rfl | exact TK.kk hT rfl | exact TK.r hT rfl | assumption) rfl ?_
                refine wp_iload4 (pc' := 102) rfl rfl ?_
                refine wp_iald _ (pc' := 103) rfl (by first | exact TK.k1 hT rfl | exact TK.kk hT rfl | exact TK.r hT rfl | assumption) (by with_reducible rfl) (by omega) (by first | decide | assumption | omega) rfl ?_
                refine wp_min (pc' := 106) rfl rfl rfl rfl ?_
                refine wp_istore3 (pc' := 107) rfl (by first | rfl | assumption) rfl ?_
                first | refine wp_iinc4 (w := nI 1) (pc' := 110) rfl rfl rfl (by with_reducible exact nI_add _ _) rfl ?_ | refine wp_iinc4 (w := nI 1) (pc' := 110) rfl rfl rfl rfl rfl ?_
                refine wp_goto rfl ?_
                exact WP.cg (ihc (i + 1) _ (by omega) (by first | rfl | assumption)) (lC1 (lI1 (by first | with_reducible rfl | (rw [upr_ne (show (328 : Nat) ≠ 326 by decide), upr_same, hm2.1, nI_min (by omega) (by omega), mnN_s]; done)) (lC1 (lI1 (by first | with_reducible rfl | (rw [upr_ne (show (328 : Nat) ≠ 326 by decide), upr_same, hm2.1, nI_min (by omega) (by omega), mnN_s]; done)) (lI1 (by first | with_reducible rfl | (rw [upr_ne (show (328 : Nat) ≠ 326 by decide), upr_same, hm2.1, nI_min (by omega) (by omega), mnN_s]; done)) rfl))))) rfl (by rfl)
            exact WP.cg (lp89 (5 - (0)) (0) _ (by omega) (by first | rfl | assumption)) (lC1 (lI1 (by rfl) (lC1 (lI1 (by rfl) (lI1 (by rfl) rfl))))) rfl (by rfl)
          · intro h42
            refine wp_iconst (v := nI 0) (pc' := 46) rfl rfl rfl ?_
            refine wp_istore2 (pc' := 47) rfl (by first | rfl | assumption) rfl ?_
            refine wp_iconst (v := nI 0) (pc' := 48) rfl rfl rfl ?_
            refine wp_istore3 (pc' := 49) rfl (by first | rfl | assumption) rfl ?_
            have lp49 : ∀ rc (i : Nat) (w : Nat → Int32) (b : Nat → Nat) (e : Bool) (g5 : Nat → Int32), i + rc = 25 → PasI (wayK sk c) (wayU sk) a i w b e → WP (d + 8) F_273 49 [.ref 318, .int (nI c), .int (if e = true then nI 1 else nI 0), .int (nI i), lDead] [] (K, upr (upr I 328 w) 326 g5, L, R, n, s) Q := by
              intro rc; induction rc with
              | zero =>
                intro i w b e g5 hic hvc0
                have hi2c : i = 25 := by omega
                subst hi2c
                refine wp_iload3 (pc' := 50) rfl rfl ?_
                refine wp_bipush (v := nI 25) (pc' := 52) rfl rfl rfl ?_
                refine wp_icmpgeT rfl (nI_nlt (by omega) (by omega)) ?_
                refine wp_goto rfl ?_
                exact WP.cg (ihb w b e g5 _ (by have := (PasI_end hvc0).2.2; rw [if_pos h42] at hib; omega) (PasI_end hvc0).1 (PasI_end hvc0).2.1) (lC1 (lI1 (by rfl) (lI1 (by rfl) (lC1 (lC1 rfl))))) rfl (by rfl)
              | succ rc ihc =>
                intro i w b e g5 hic hvc0
                have hltc : i < 25 := by omega
                have hd1 := (hsk i (by omega)).2
                refine wp_iload3 (pc' := 50) rfl rfl ?_
                refine wp_bipush (v := nI 25) (pc' := 52) rfl rfl rfl ?_
                refine wp_icmpgeF (pc' := 55) rfl (nI_lt (by omega) (by omega)) rfl ?_
                refine wp_iload2 (pc' := 56) rfl rfl ?_
                refine wp_aload0 (pc' := 57) rfl rfl ?_
                refine wp_iload3 (pc' := 58) rfl rfl ?_
                refine wp_sipush (v := nI 1000) (pc' := 61) rfl rfl rfl ?_
                refine wp_aload0 (pc' := 62) rfl rfl ?_
                refine wp_iload3 (pc' := 63) rfl rfl ?_
                refine wp_callV2 (pc' := 66) rfl rfl rfl rfl rfl (by first | exact TK.k1 hT rfl | exact TK.kk hT rfl | exact TK.r hT rfl | assumption) rfl rfl ?_
                refine m_sinksBy (o := o) hT (by omega) (by rw [upr_ne (show (319 : Nat) ≠ 326 by decide), upr_ne (show (319 : Nat) ≠ 328 by decide)]; exact hro) (fun g4 => ?_)
                rw [upr_upr, upr_ne (show (319 : Nat) ≠ 326 by decide), upr_ne (show (319 : Nat) ≠ 328 by decide), (hsk i (by omega)).1]
                refine Cont.v ?_
                first | refine wp_imulN (pc' := 67) rfl (by with_reducible rfl) (by with_reducible rfl) rfl ?_ | refine wp_imul (pc' := 67) rfl rfl ?_
                refine wp_iconst (v := nI 1) (pc' := 68) rfl rfl rfl ?_
                first | refine wp_iaddN (pc' := 69) rfl (by with_reducible rfl) (by with_reducible rfl) rfl ?_ | refine wp_iadd (pc' := 69) rfl rfl ?_
                refine wp_callV3 (pc' := 72) rfl rfl rfl rfl rfl (by first | exact TK.k1 hT rfl | exact TK.kk hT rfl | exact TK.r hT rfl | assumption) rfl rfl ?_
                refine m_isLessBy (a := b) (u := wayU sk i) hT (by omega) (by rw [upr_ne (show (328 : Nat) ≠ 326 by decide), upr_same]; exact hvc0.1.1) (by unfold wayU; omega) ?_
                rw [up2_upr_ne (show (328 : Nat) ≠ 326 by decide), up2_upr]
                refine Cont.v ?_
                refine wp_ior (pc' := 73) rfl rfl ?_
                refine wp_istore2 (pc' := 74) rfl (by first | rfl | assumption) rfl ?_
                first | refine wp_iinc3 (w := nI 1) (pc' := 77) rfl rfl rfl (by with_reducible exact nI_add _ _) rfl ?_ | refine wp_iinc3 (w := nI 1) (pc' := 77) rfl rfl rfl rfl rfl ?_
                refine wp_goto rfl ?_
                exact WP.cg (ihc (i + 1) _ _ _ g4 (by omega) (PasI_s (by omega) hvc0)) (lC1 (lI1 (by first | with_reducible rfl | with_reducible exact flag_or) (lI1 (by first | with_reducible rfl | with_reducible exact flag_or) (lI1 (by first | with_reducible rfl | with_reducible exact flag_or) (lC1 rfl))))) rfl (by rfl)
            exact WP.cg (lp49 (25 - (0)) (0) v a false g3 (by omega) (PasI_0 hvb0)) (lC1 (lI1 (by rfl) (lI1 (by rfl) (lI1 (by rfl) (lC1 rfl))))) rfl (by rfl)
      exact WP.cg (lp41 _ _ (wayK sk c) true g _ (Nat.le_refl _) hst (fun e => absurd e (by decide))) (lC1 (lI1 (by rfl) (lI1 (by rfl) (lC1 (lC1 rfl))))) rfl (by rfl)
    | succ r ih =>
      intro i g hi 
      have hlt : i < 25 := by omega
      have hd1 := (hsk c hc).2
      refine wp_iload2 (pc' := 3) rfl rfl ?_
      refine wp_bipush (v := nI 25) (pc' := 5) rfl rfl rfl ?_
      refine wp_icmpgeF (pc' := 8) rfl (nI_lt (by omega) (by omega)) rfl ?_
      refine wp_aload0 (pc' := 9) rfl rfl ?_
      refine wp_getRF (pc' := 12) rfl rfl (by first | exact TK.k1 hT rfl | exact TK.kk hT rfl | exact TK.r hT rfl | assumption) (by first | exact TK.k1 hT rfl | exact TK.kk hT rfl | exact TK.r hT rfl | assumption) rfl ?_
      refine wp_iload2 (pc' := 13) rfl rfl ?_
      refine wp_iload2 (pc' := 14) rfl rfl ?_
      refine wp_iload1 (pc' := 15) rfl rfl ?_
      refine wp_icmpne (pc' := 18) rfl rfl ?_ ?_
      · intro h15
        obtain ⟨g2, hg2⟩ : ∃ g2, g = g2 := ⟨_, rfl⟩
        rw [hg2]
        refine wp_pool (v := .int (nI 100000000)) (pc' := 32) rfl rfl rfl rfl rfl ?_
        refine wp_iast _ (pc' := 33) rfl (by first | exact TK.k1 hT rfl | exact TK.kk hT rfl | exact TK.r hT rfl | assumption) (by omega) (by with_reducible rfl) (by omega) (by first | decide | assumption | omega) rfl ?_
        first | refine wp_iinc2 (w := nI 1) (pc' := 36) rfl rfl rfl (by with_reducible exact nI_add _ _) rfl ?_ | refine wp_iinc2 (w := nI 1) (pc' := 36) rfl rfl rfl rfl rfl ?_
        refine wp_goto rfl ?_
        exact WP.cg (ih (i + 1) g2 (by omega)) (lC1 (lI1 (by rfl) (lI1 (by rfl) (lC1 (lC1 rfl))))) rfl (by rw [up2_upr_ne (show (328 : Nat) ≠ 326 by decide), up2_upr, ← cpy_up]; first | (rw [show wayK sk c i = 1000 * sk c from if_pos ((nI_eq (by omega) (by omega)).mp h15)]; done) | (rw [show wayK sk c i = 100000000 from if_neg (fun e => h15 (by rw [e]))]; done))
      · intro h15
        refine wp_sipush (v := nI 1000) (pc' := 21) rfl rfl rfl ?_
        refine wp_aload0 (pc' := 22) rfl rfl ?_
        refine wp_iload1 (pc' := 23) rfl rfl ?_
        refine wp_callV2 (pc' := 26) rfl rfl rfl rfl rfl (by first | exact TK.k1 hT rfl | exact TK.kk hT rfl | exact TK.r hT rfl | assumption) rfl rfl ?_
        refine m_sinksBy (o := o) hT hc (by rw [upr_ne (show (319 : Nat) ≠ 326 by decide), upr_ne (show (319 : Nat) ≠ 328 by decide)]; exact hro) (fun g2 => ?_)
        rw [upr_upr, upr_ne (show (319 : Nat) ≠ 326 by decide), upr_ne (show (319 : Nat) ≠ 328 by decide), (hsk c hc).1]
        refine Cont.v ?_
        first | refine wp_imulN (pc' := 27) rfl (by with_reducible rfl) (by with_reducible rfl) rfl ?_ | refine wp_imul (pc' := 27) rfl rfl ?_
        refine wp_goto rfl ?_
        refine wp_iast _ (pc' := 33) rfl (by first | exact TK.k1 hT rfl | exact TK.kk hT rfl | exact TK.r hT rfl | assumption) (by omega) (by with_reducible rfl) (by omega) (by first | decide | assumption | omega) rfl ?_
        first | refine wp_iinc2 (w := nI 1) (pc' := 36) rfl rfl rfl (by with_reducible exact nI_add _ _) rfl ?_ | refine wp_iinc2 (w := nI 1) (pc' := 36) rfl rfl rfl rfl rfl ?_
        refine wp_goto rfl ?_
        exact WP.cg (ih (i + 1) g2 (by omega)) (lC1 (lI1 (by rfl) (lI1 (by rfl) (lC1 (lC1 rfl))))) rfl (by rw [up2_upr_ne (show (328 : Nat) ≠ 326 by decide), up2_upr, ← cpy_up]; first | (rw [show wayK sk c i = 1000 * sk c from if_pos ((nI_eq (by omega) (by omega)).mp h15)]; done) | (rw [show wayK sk c i = 100000000 from if_neg (fun e => h15 (by rw [e]))]; done))
  exact WP.cg (lp2 (25 - (0)) (0) (I 326) (by omega)) (lC1 (lI1 (by rfl) (lI1 (by rfl) (lC1 (lC1 rfl))))) rfl (by rw [cpy_0, upr_id, upr_id])
