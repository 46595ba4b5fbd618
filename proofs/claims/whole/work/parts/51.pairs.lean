/-! HEARTHS two by two -/
theorem Ql {Q : Lo → Lm → Prop} {v v' : Int64} {t t' : Lm} (kk : Q (.inl (some (.long v'))) t') (e : v = v') (e2 : t = t') : Q (.inl (some (.long v))) t := by subst e; subst e2; exact kk
theorem bpN_s1 {S : Mem} {B : Nat → Int64} {q h j : Nat} (hj : h + 1 ≤ j) (e : hasP (nI q) j) : bpN S B q h (j + 1 - (h + 1)) = jmax8 (bpN S B q h (j - (h + 1))) (bpW S B q h j) := by
  rw [show j + 1 - (h + 1) = (j - (h + 1)) + 1 by omega]
  show bpS S B q h (h + 1 + (j - (h + 1))) _ = _
  rw [show h + 1 + (j - (h + 1)) = j by omega, bpS, if_pos e]; rfl
theorem bpN_s0 {S : Mem} {B : Nat → Int64} {q h j : Nat} (hj : h + 1 ≤ j) (e : ¬ hasP (nI q) j) : bpN S B q h (j + 1 - (h + 1)) = bpN S B q h (j - (h + 1)) := by
  rw [show j + 1 - (h + 1) = (j - (h + 1)) + 1 by omega]
  show bpS S B q h (h + 1 + (j - (h + 1))) _ = _
  rw [show h + 1 + (j - (h + 1)) = j by omega, bpS, if_neg e]; rfl
theorem and63 : ∀ a : Fin 7, nI (2 ^ a.1 - 1) &&& nI 63 = nI (2 ^ a.1 - 1) := by decide +kernel

theorem c_bestPairs {d : Nat} {K : Nat → Nat × Nat} {I : Nat → Nat → Int32} {L : Nat → Nat → Int64} {R : Nat → Nat → Option Nat} {n s : Nat} {Q : Lo → Lm → Prop} {b H a : Nat} {B : Nat → Int64} (hT : TK K R n) (hS : TS K L) (hb : StK K R n b) (hH : I b 10 = nI H) (hH6 : H ≤ 6) (ha : a < 64) (kk : Q (.inl (some (.long (bpV (vw b I) B H a)))) (K, I, upr L 173 B, R, n, s)) : Ok (d + 2) 189 [.ref 172, .ref b, .int (nI a)] (K, I, upr L 173 B, R, n, s) Q := by
  obtain ⟨-, -, hn⟩ := id hT
  obtain ⟨k0, k1, k2, k3, k4, k5, k6, k7, k8, k9, k10, k11, r0, r1, r2, r3, r4, r5, r6, r7, r8, r9, r10, hbn⟩ := id hb
  refine Ok.enter (F := F_189) (ls := [.ref 172, .ref b, .int (nI a), lDead, lDead, lDead, lDead, lDead, lDead, lDead, lDead]) rfl rfl ?_
  refine wp_iconst (v := nI 0) (pc' := 1) rfl rfl rfl ?_
  refine wp_istore3 (pc' := 2) rfl (by first | rfl | assumption) rfl ?_
  have lp2 : ∀ r (i : Nat) (v4 : Value) (v5 : Value) (v6 : Value) (v7 : Value) (v8 : Value) (v9 : Value) (v10 : Value), i + r = 5 → lowF a r i = lowF a 5 0 → isL v4 = false → isL v5 = false → isL v6 = false → isL v7 = false → isL v8 = false → isL v9 = false → isL v10 = false → WP (d + 1) F_189 2 [.ref 172, .ref b, .int (nI a), .int (nI i), v4, v5, v6, v7, v8, v9, v10] [] (K, I, upr L 173 B, R, n, s) Q := by
    intro r; induction r with
    | zero =>
      intro i v4 v5 v6 v7 v8 v9 v10 hi hv0 hv1 hv2 hv3 hv4 hv5 hv6 hv7
      have hi2 : i = 5 := by omega
      skip
      refine wp_iload3 (pc' := 3) rfl rfl ?_
      refine wp_iconst (v := nI 5) (pc' := 4) rfl rfl rfl ?_
      refine wp_icmpgeT rfl (nI_nlt (by omega) (by omega)) ?_
      have hlo2 : i = lowF a 5 0 := by first | exact hv0 | (rw [lowF, if_neg h12] at hv0; exact hv0)
      obtain ⟨o1, o2, o3, o4⟩ := or64 ⟨a, ha⟩ ⟨i, by omega⟩
      refine wp_iload2 (pc' := 22) rfl rfl ?_
      refine wp_iconst (v := nI 1) (pc' := 23) rfl rfl rfl ?_
      refine wp_iload3 (pc' := 24) rfl rfl ?_
      refine wp_ishl (pc' := 25) rfl rfl ?_
      refine wp_iconst (v := (-1)) (pc' := 26) rfl rfl rfl ?_
      refine wp_ixor (pc' := 27) rfl rfl ?_
      refine wp_iand (pc' := 28) rfl rfl ?_
      rw [o3]
      have o4 : clr a i < 64 := o4
      generalize hq : clr a i = q at o4 ⊢
      refine wp_istore4 (pc' := 30) rfl (by first | rfl | assumption) rfl ?_
      refine wp_aload0 (pc' := 31) rfl rfl ?_
      refine wp_getRF (pc' := 34) rfl rfl (by first | exact TK.k1 hT rfl | exact TK.kk hT rfl | exact TK.r hT rfl | assumption) (by first | exact TK.k1 hT rfl | exact TK.kk hT rfl | exact TK.r hT rfl | assumption) rfl ?_
      refine wp_iload4 (pc' := 36) rfl rfl ?_
      refine wp_lald q (pc' := 37) rfl (TK.kk hT rfl) rfl (by omega) (by decide) rfl ?_
      rw [upr_same]
      refine wp_lstore5 (pc' := 39) rfl (by first | rfl | assumption) rfl ?_
      refine wp_iload3 (pc' := 40) rfl rfl ?_
      refine wp_iconst (v := nI 1) (pc' := 41) rfl rfl rfl ?_
      first | refine wp_iaddN (pc' := 42) rfl (by with_reducible rfl) (by with_reducible rfl) rfl ?_ | refine wp_iadd (pc' := 42) rfl rfl ?_
      refine wp_istore7 (pc' := 44) rfl (by first | rfl | assumption) rfl ?_
      have lp44 : ∀ rb (j : Nat) (v8 : Value) (v9 : Value) (v10 : Value), j + rb = max H (i + 1) → i + 1 ≤ j → isL v8 = false → WP (d + 1) F_189 44 [.ref 172, .ref b, .int (nI a), .int (nI i), .int (nI q), .long (bpN (vw b I) B q i (j - (i + 1))), lDead, .int (nI j), v8, v9, v10] [] (K, I, upr L 173 B, R, n, s) Q := by
        intro rb; induction rb with
        | zero =>
          intro j v8 v9 v10 hib hvb0 hvb1
          refine wp_iload7 (pc' := 46) rfl rfl ?_
          refine wp_aload1 (pc' := 47) rfl rfl ?_
          refine wp_getI (pc' := 50) rfl rfl (by first | exact TK.k1 hT rfl | exact TK.kk hT rfl | exact TK.r hT rfl | assumption) rfl ?_
          refine wp_icmpgeT rfl (by rw [hH]; exact nI_nlt (by omega) (by omega)) ?_
          refine wp_lload5 (pc' := 148) rfl rfl ?_
          refine wp_lret rfl rfl ?_
          exact Ql kk (by unfold bpV; rw [← hlo2, hq]; congr 1; omega) rfl
        | succ rb ihb =>
          intro j v8 v9 v10 hib hvb0 hvb1
          refine wp_iload7 (pc' := 46) rfl rfl ?_
          refine wp_aload1 (pc' := 47) rfl rfl ?_
          refine wp_getI (pc' := 50) rfl rfl (by first | exact TK.k1 hT rfl | exact TK.kk hT rfl | exact TK.r hT rfl | assumption) rfl ?_
          refine wp_icmpgeF (pc' := 53) rfl (by rw [hH]; exact nI_lt (by omega) (by omega)) rfl ?_
          refine wp_iload4 (pc' := 55) rfl rfl ?_
          refine wp_iload7 (pc' := 57) rfl rfl ?_
          refine wp_ishr (pc' := 58) rfl rfl ?_
          refine wp_iconst (v := nI 1) (pc' := 59) rfl rfl rfl ?_
          refine wp_iand (pc' := 60) rfl rfl ?_
          refine wp_iconst (v := nI 1) (pc' := 61) rfl rfl rfl ?_
          refine wp_icmpne (pc' := 64) rfl rfl ?_ ?_
          · intro h61
            first | refine wp_iinc7 (w := nI 1) (pc' := 143) rfl rfl rfl (by with_reducible exact nI_add _ _) rfl ?_ | refine wp_iinc7 (w := nI 1) (pc' := 143) rfl rfl rfl rfl rfl ?_
            refine wp_goto rfl ?_
            exact WP.cg (ihb (j + 1) _ _ _ (by omega) (by omega) (by first | rfl | assumption)) (lC1 (lC1 (lI1 (by first | with_reducible rfl | (rw [bpN_s1 hvb0 h61]; rfl) | rw [bpN_s0 hvb0 h61]) (lI1 (by first | with_reducible rfl | (rw [bpN_s1 hvb0 h61]; rfl) | rw [bpN_s0 hvb0 h61]) (lI1 (by first | with_reducible rfl | (rw [bpN_s1 hvb0 h61]; rfl) | rw [bpN_s0 hvb0 h61]) (lL1 (by first | with_reducible rfl | (rw [bpN_s1 hvb0 h61]; rfl) | rw [bpN_s0 hvb0 h61]) (lC1 (lI1 (by first | with_reducible rfl | (rw [bpN_s1 hvb0 h61]; rfl) | rw [bpN_s0 hvb0 h61]) (lC1 (lC1 (lC1 rfl))))))))))) rfl (by rfl)
          · intro h61
            refine wp_aload1 (pc' := 65) rfl rfl ?_
            refine wp_getRF (pc' := 68) rfl rfl (by first | exact TK.k1 hT rfl | exact TK.kk hT rfl | exact TK.r hT rfl | assumption) (by first | exact TK.k1 hT rfl | exact TK.kk hT rfl | exact TK.r hT rfl | assumption) rfl ?_
            refine wp_iload3 (pc' := 69) rfl rfl ?_
            refine wp_iald _ (pc' := 70) rfl (by first | exact TK.k1 hT rfl | exact TK.kk hT rfl | exact TK.r hT rfl | assumption) (by with_reducible rfl) (by omega) (by first | decide | assumption | omega) rfl ?_
            refine wp_aload1 (pc' := 71) rfl rfl ?_
            refine wp_getRF (pc' := 74) rfl rfl (by first | exact TK.k1 hT rfl | exact TK.kk hT rfl | exact TK.r hT rfl | assumption) (by first | exact TK.k1 hT rfl | exact TK.kk hT rfl | exact TK.r hT rfl | assumption) rfl ?_
            refine wp_iload7 (pc' := 76) rfl rfl ?_
            refine wp_iald _ (pc' := 77) rfl (by first | exact TK.k1 hT rfl | exact TK.kk hT rfl | exact TK.r hT rfl | assumption) (by with_reducible rfl) (by omega) (by first | decide | assumption | omega) rfl ?_
            refine wp_iand (pc' := 78) rfl rfl ?_
            refine wp_callS1 (pc' := 81) rfl rfl rfl rfl rfl rfl ?_
            refine c_bitCount ?_
            refine Cont.v ?_
            refine wp_istore8 (pc' := 83) rfl (by first | rfl | assumption) rfl ?_
            refine wp_aload0 (pc' := 84) rfl rfl ?_
            refine wp_getRF (pc' := 87) rfl rfl (by first | exact TK.k1 hT rfl | exact TK.kk hT rfl | exact TK.r hT rfl | assumption) (by first | exact TK.k1 hT rfl | exact TK.kk hT rfl | exact TK.r hT rfl | assumption) rfl ?_
            refine wp_iload4 (pc' := 89) rfl rfl ?_
            refine wp_iconst (v := nI 1) (pc' := 90) rfl rfl rfl ?_
            refine wp_iload7 (pc' := 92) rfl rfl ?_
            refine wp_ishl (pc' := 93) rfl rfl ?_
            refine wp_iconst (v := (-1)) (pc' := 94) rfl rfl rfl ?_
            refine wp_ixor (pc' := 95) rfl rfl ?_
            refine wp_iand (pc' := 96) rfl rfl ?_
            obtain ⟨p1, p2, p3, p4⟩ := or64 ⟨q, o4⟩ ⟨j, by omega⟩
            rw [p3]
            refine wp_lald (clr q j) (pc' := 97) rfl (TK.kk hT rfl) rfl p4 (by decide) rfl ?_
            rw [upr_same]
            refine wp_iload8 (pc' := 99) rfl rfl ?_
            refine wp_i2l (pc' := 100) rfl rfl ?_
            refine wp_pool (v := .long (117649)) (pc' := 103) rfl rfl rfl rfl rfl ?_
            refine wp_lmul (pc' := 104) rfl rfl ?_
            refine wp_ladd (pc' := 105) rfl rfl ?_
            refine wp_iload7 (pc' := 107) rfl rfl ?_
            refine wp_iconst (v := nI 1) (pc' := 108) rfl rfl rfl ?_
            first | refine wp_iaddN (pc' := 109) rfl (by with_reducible rfl) (by with_reducible rfl) rfl ?_ | refine wp_iadd (pc' := 109) rfl rfl ?_
            refine wp_i2l (pc' := 110) rfl rfl ?_
            refine wp_pool (v := .ref (lmB + 1001)) (pc' := 113) rfl rfl rfl rfl rfl ?_
            refine wp_iload3 (pc' := 114) rfl rfl ?_
            refine wp_lald i (pc' := 115) rfl (hS.1 1 (by decide)) rfl (by omega) (by decide) rfl ?_
            rw [TS_pd (TS_upr hS)]
            refine wp_lmul (pc' := 116) rfl rfl ?_
            refine wp_lsub (pc' := 117) rfl rfl ?_
            refine wp_iload3 (pc' := 118) rfl rfl ?_
            refine wp_iconst (v := nI 1) (pc' := 119) rfl rfl rfl ?_
            first | refine wp_iaddN (pc' := 120) rfl (by with_reducible rfl) (by with_reducible rfl) rfl ?_ | refine wp_iadd (pc' := 120) rfl rfl ?_
            refine wp_i2l (pc' := 121) rfl rfl ?_
            refine wp_pool (v := .ref (lmB + 1001)) (pc' := 124) rfl rfl rfl rfl rfl ?_
            refine wp_iload7 (pc' := 126) rfl rfl ?_
            refine wp_lald j (pc' := 127) rfl (hS.1 1 (by decide)) rfl (by omega) (by decide) rfl ?_
            rw [TS_pd (TS_upr hS)]
            refine wp_lmul (pc' := 128) rfl rfl ?_
            refine wp_lsub (pc' := 129) rfl rfl ?_
            refine wp_lstore9 (pc' := 131) rfl (by first | rfl | assumption) rfl ?_
            refine wp_lload5 (pc' := 133) rfl rfl ?_
            refine wp_lload9 (pc' := 135) rfl rfl ?_
            refine wp_maxL (pc' := 138) rfl rfl rfl rfl ?_
            refine wp_lstore5 (pc' := 140) rfl (by first | rfl | assumption) rfl ?_
            first | refine wp_iinc7 (w := nI 1) (pc' := 143) rfl rfl rfl (by with_reducible exact nI_add _ _) rfl ?_ | refine wp_iinc7 (w := nI 1) (pc' := 143) rfl rfl rfl rfl rfl ?_
            refine wp_goto rfl ?_
            exact WP.cg (ihb (j + 1) _ _ _ (by omega) (by omega) (by first | rfl | assumption)) (lC1 (lC1 (lI1 (by first | with_reducible rfl | (rw [bpN_s1 hvb0 h61]; rfl) | rw [bpN_s0 hvb0 h61]) (lI1 (by first | with_reducible rfl | (rw [bpN_s1 hvb0 h61]; rfl) | rw [bpN_s0 hvb0 h61]) (lI1 (by first | with_reducible rfl | (rw [bpN_s1 hvb0 h61]; rfl) | rw [bpN_s0 hvb0 h61]) (lL1 (by first | with_reducible rfl | (rw [bpN_s1 hvb0 h61]; rfl) | rw [bpN_s0 hvb0 h61]) (lC1 (lI1 (by first | with_reducible rfl | (rw [bpN_s1 hvb0 h61]; rfl) | rw [bpN_s0 hvb0 h61]) (lC1 (lC1 (lC1 rfl))))))))))) rfl (by rfl)
      exact WP.cg (lp44 (max H (i + 1) - (i + 1)) (i + 1) _ _ _ (by omega) (Nat.le_refl _) (by first | rfl | assumption)) (lC1 (lC1 (lI1 (by first | with_reducible rfl | (rw [Nat.sub_self]; rfl)) (lI1 (by first | with_reducible rfl | (rw [Nat.sub_self]; rfl)) (lI1 (by first | with_reducible rfl | (rw [Nat.sub_self]; rfl)) (lL1 (by first | with_reducible rfl | (rw [Nat.sub_self]; rfl)) (lC1 (lI1 (by first | with_reducible rfl | (rw [Nat.sub_self]; rfl)) (lC1 (lC1 (lC1 rfl))))))))))) rfl (by rfl)
    | succ r ih =>
      intro i v4 v5 v6 v7 v8 v9 v10 hi hv0 hv1 hv2 hv3 hv4 hv5 hv6 hv7
      have hlt : i < 5 := by omega
      refine wp_iload3 (pc' := 3) rfl rfl ?_
      refine wp_iconst (v := nI 5) (pc' := 4) rfl rfl rfl ?_
      refine wp_icmpgeF (pc' := 7) rfl (nI_lt (by omega) (by omega)) rfl ?_
      refine wp_iload2 (pc' := 8) rfl rfl ?_
      refine wp_iload3 (pc' := 9) rfl rfl ?_
      refine wp_ishr (pc' := 10) rfl rfl ?_
      refine wp_iconst (v := nI 1) (pc' := 11) rfl rfl rfl ?_
      refine wp_iand (pc' := 12) rfl rfl ?_
      first | refine wp_ifneB (pc' := 15) rfl rfl ?_ ?_ | refine wp_ifne (pc' := 15) rfl rfl ?_ ?_
      · intro h12
        have hlo2 : i = lowF a 5 0 := by first | exact hv0 | (rw [lowF, if_neg h12] at hv0; exact hv0)
        obtain ⟨o1, o2, o3, o4⟩ := or64 ⟨a, ha⟩ ⟨i, by omega⟩
        refine wp_iload2 (pc' := 22) rfl rfl ?_
        refine wp_iconst (v := nI 1) (pc' := 23) rfl rfl rfl ?_
        refine wp_iload3 (pc' := 24) rfl rfl ?_
        refine wp_ishl (pc' := 25) rfl rfl ?_
        refine wp_iconst (v := (-1)) (pc' := 26) rfl rfl rfl ?_
        refine wp_ixor (pc' := 27) rfl rfl ?_
        refine wp_iand (pc' := 28) rfl rfl ?_
        rw [o3]
        have o4 : clr a i < 64 := o4
        generalize hq : clr a i = q at o4 ⊢
        refine wp_istore4 (pc' := 30) rfl (by first | rfl | assumption) rfl ?_
        refine wp_aload0 (pc' := 31) rfl rfl ?_
        refine wp_getRF (pc' := 34) rfl rfl (by first | exact TK.k1 hT rfl | exact TK.kk hT rfl | exact TK.r hT rfl | assumption) (by first | exact TK.k1 hT rfl | exact TK.kk hT rfl | exact TK.r hT rfl | assumption) rfl ?_
        refine wp_iload4 (pc' := 36) rfl rfl ?_
        refine wp_lald q (pc' := 37) rfl (TK.kk hT rfl) rfl (by omega) (by decide) rfl ?_
        rw [upr_same]
        refine wp_lstore5 (pc' := 39) rfl (by first | rfl | assumption) rfl ?_
        refine wp_iload3 (pc' := 40) rfl rfl ?_
        refine wp_iconst (v := nI 1) (pc' := 41) rfl rfl rfl ?_
        first | refine wp_iaddN (pc' := 42) rfl (by with_reducible rfl) (by with_reducible rfl) rfl ?_ | refine wp_iadd (pc' := 42) rfl rfl ?_
        refine wp_istore7 (pc' := 44) rfl (by first | rfl | assumption) rfl ?_
        have lp44 : ∀ rb (j : Nat) (v8 : Value) (v9 : Value) (v10 : Value), j + rb = max H (i + 1) → i + 1 ≤ j → isL v8 = false → WP (d + 1) F_189 44 [.ref 172, .ref b, .int (nI a), .int (nI i), .int (nI q), .long (bpN (vw b I) B q i (j - (i + 1))), lDead, .int (nI j), v8, v9, v10] [] (K, I, upr L 173 B, R, n, s) Q := by
          intro rb; induction rb with
          | zero =>
            intro j v8 v9 v10 hib hvb0 hvb1
            refine wp_iload7 (pc' := 46) rfl rfl ?_
            refine wp_aload1 (pc' := 47) rfl rfl ?_
            refine wp_getI (pc' := 50) rfl rfl (by first | exact TK.k1 hT rfl | exact TK.kk hT rfl | exact TK.r hT rfl | assumption) rfl ?_
            refine wp_icmpgeT rfl (by rw [hH]; exact nI_nlt (by omega) (by omega)) ?_
            refine wp_lload5 (pc' := 148) rfl rfl ?_
            refine wp_lret rfl rfl ?_
            exact Ql kk (by unfold bpV; rw [← hlo2, hq]; congr 1; omega) rfl
          | succ rb ihb =>
            intro j v8 v9 v10 hib hvb0 hvb1
            refine wp_iload7 (pc' := 46) rfl rfl ?_
            refine wp_aload1 (pc' := 47) rfl rfl ?_
            refine wp_getI (pc' := 50) rfl rfl (by first | exact TK.k1 hT rfl | exact TK.kk hT rfl | exact TK.r hT rfl | assumption) rfl ?_
            refine wp_icmpgeF (pc' := 53) rfl (by rw [hH]; exact nI_lt (by omega) (by omega)) rfl ?_
            refine wp_iload4 (pc' := 55) rfl rfl ?_
            refine wp_iload7 (pc' := 57) rfl rfl ?_
            refine wp_ishr (pc' := 58) rfl rfl ?_
            refine wp_iconst (v := nI 1) (pc' := 59) rfl rfl rfl ?_
            refine wp_iand (pc' := 60) rfl rfl ?_
            refine wp_iconst (v := nI 1) (pc' := 61) rfl rfl rfl ?_
            refine wp_icmpne (pc' := 64) rfl rfl ?_ ?_
            · intro h61
              first | refine wp_iinc7 (w := nI 1) (pc' := 143) rfl rfl rfl (by with_reducible exact nI_add _ _) rfl ?_ | refine wp_iinc7 (w := nI 1) (pc' := 143) rfl rfl rfl rfl rfl ?_
              refine wp_goto rfl ?_
              exact WP.cg (ihb (j + 1) _ _ _ (by omega) (by omega) (by first | rfl | assumption)) (lC1 (lC1 (lI1 (by first | with_reducible rfl | (rw [bpN_s1 hvb0 h61]; rfl) | rw [bpN_s0 hvb0 h61]) (lI1 (by first | with_reducible rfl | (rw [bpN_s1 hvb0 h61]; rfl) | rw [bpN_s0 hvb0 h61]) (lI1 (by first | with_reducible rfl | (rw [bpN_s1 hvb0 h61]; rfl) | rw [bpN_s0 hvb0 h61]) (lL1 (by first | with_reducible rfl | (rw [bpN_s1 hvb0 h61]; rfl) | rw [bpN_s0 hvb0 h61]) (lC1 (lI1 (by first | with_reducible rfl | (rw [bpN_s1 hvb0 h61]; rfl) | rw [bpN_s0 hvb0 h61]) (lC1 (lC1 (lC1 rfl))))))))))) rfl (by rfl)
            · intro h61
              refine wp_aload1 (pc' := 65) rfl rfl ?_
              refine wp_getRF (pc' := 68) rfl rfl (by first | exact TK.k1 hT rfl | exact TK.kk hT rfl | exact TK.r hT rfl | assumption) (by first | exact TK.k1 hT rfl | exact TK.kk hT rfl | exact TK.r hT rfl | assumption) rfl ?_
              refine wp_iload3 (pc' := 69) rfl rfl ?_
              refine wp_iald _ (pc' := 70) rfl (by first | exact TK.k1 hT rfl | exact TK.kk hT rfl | exact TK.r hT rfl | assumption) (by with_reducible rfl) (by omega) (by first | decide | assumption | omega) rfl ?_
              refine wp_aload1 (pc' := 71) rfl rfl ?_
              refine wp_getRF (pc' := 74) rfl rfl (by first | exact TK.k1 hT rfl | exact TK.kk hT rfl | exact TK.r hT rfl | assumption) (by first | exact TK.k1 hT rfl | exact TK.kk hT rfl | exact TK.r hT rfl | assumption) rfl ?_
              refine wp_iload7 (pc' := 76) rfl rfl ?_
              refine wp_iald _ (pc' := 77) rfl (by first | exact TK.k1 hT rfl | exact TK.kk hT rfl | exact TK.r hT rfl | assumption) (by with_reducible rfl) (by omega) (by first | decide | assumption | omega) rfl ?_
              refine wp_iand (pc' := 78) rfl rfl ?_
              refine wp_callS1 (pc' := 81) rfl rfl rfl rfl rfl rfl ?_
              refine c_bitCount ?_
              refine Cont.v ?_
              refine wp_istore8 (pc' := 83) rfl (by first | rfl | assumption) rfl ?_
              refine wp_aload0 (pc' := 84) rfl rfl ?_
              refine wp_getRF (pc' := 87) rfl rfl (by first | exact TK.k1 hT rfl | exact TK.kk hT rfl | exact TK.r hT rfl | assumption) (by first | exact TK.k1 hT rfl | exact TK.kk hT rfl | exact TK.r hT rfl | assumption) rfl ?_
              refine wp_iload4 (pc' := 89) rfl rfl ?_
              refine wp_iconst (v := nI 1) (pc' := 90) rfl rfl rfl ?_
              refine wp_iload7 (pc' := 92) rfl rfl ?_
              refine wp_ishl (pc' := 93) rfl rfl ?_
              refine wp_iconst (v := (-1)) (pc' := 94) rfl rfl rfl ?_
              refine wp_ixor (pc' := 95) rfl rfl ?_
              refine wp_iand (pc' := 96) rfl rfl ?_
              obtain ⟨p1, p2, p3, p4⟩ := or64 ⟨q, o4⟩ ⟨j, by omega⟩
              rw [p3]
              refine wp_lald (clr q j) (pc' := 97) rfl (TK.kk hT rfl) rfl p4 (by decide) rfl ?_
              rw [upr_same]
              refine wp_iload8 (pc' := 99) rfl rfl ?_
              refine wp_i2l (pc' := 100) rfl rfl ?_
              refine wp_pool (v := .long (117649)) (pc' := 103) rfl rfl rfl rfl rfl ?_
              refine wp_lmul (pc' := 104) rfl rfl ?_
              refine wp_ladd (pc' := 105) rfl rfl ?_
              refine wp_iload7 (pc' := 107) rfl rfl ?_
              refine wp_iconst (v := nI 1) (pc' := 108) rfl rfl rfl ?_
              first | refine wp_iaddN (pc' := 109) rfl (by with_reducible rfl) (by with_reducible rfl) rfl ?_ | refine wp_iadd (pc' := 109) rfl rfl ?_
              refine wp_i2l (pc' := 110) rfl rfl ?_
              refine wp_pool (v := .ref (lmB + 1001)) (pc' := 113) rfl rfl rfl rfl rfl ?_
              refine wp_iload3 (pc' := 114) rfl rfl ?_
              refine wp_lald i (pc' := 115) rfl (hS.1 1 (by decide)) rfl (by omega) (by decide) rfl ?_
              rw [TS_pd (TS_upr hS)]
              refine wp_lmul (pc' := 116) rfl rfl ?_
              refine wp_lsub (pc' := 117) rfl rfl ?_
              refine wp_iload3 (pc' := 118) rfl rfl ?_
              refine wp_iconst (v := nI 1) (pc' := 119) rfl rfl rfl ?_
              first | refine wp_iaddN (pc' := 120) rfl (by with_reducible rfl) (by with_reducible rfl) rfl ?_ | refine wp_iadd (pc' := 120) rfl rfl ?_
              refine wp_i2l (pc' := 121) rfl rfl ?_
              refine wp_pool (v := .ref (lmB + 1001)) (pc' := 124) rfl rfl rfl rfl rfl ?_
              refine wp_iload7 (pc' := 126) rfl rfl ?_
              refine wp_lald j (pc' := 127) rfl (hS.1 1 (by decide)) rfl (by omega) (by decide) rfl ?_
              rw [TS_pd (TS_upr hS)]
              refine wp_lmul (pc' := 128) rfl rfl ?_
              refine wp_lsub (pc' := 129) rfl rfl ?_
              refine wp_lstore9 (pc' := 131) rfl (by first | rfl | assumption) rfl ?_
              refine wp_lload5 (pc' := 133) rfl rfl ?_
              refine wp_lload9 (pc' := 135) rfl rfl ?_
              refine wp_maxL (pc' := 138) rfl rfl rfl rfl ?_
              refine wp_lstore5 (pc' := 140) rfl (by first | rfl | assumption) rfl ?_
              first | refine wp_iinc7 (w := nI 1) (pc' := 143) rfl rfl rfl (by with_reducible exact nI_add _ _) rfl ?_ | refine wp_iinc7 (w := nI 1) (pc' := 143) rfl rfl rfl rfl rfl ?_
              refine wp_goto rfl ?_
              exact WP.cg (ihb (j + 1) _ _ _ (by omega) (by omega) (by first | rfl | assumption)) (lC1 (lC1 (lI1 (by first | with_reducible rfl | (rw [bpN_s1 hvb0 h61]; rfl) | rw [bpN_s0 hvb0 h61]) (lI1 (by first | with_reducible rfl | (rw [bpN_s1 hvb0 h61]; rfl) | rw [bpN_s0 hvb0 h61]) (lI1 (by first | with_reducible rfl | (rw [bpN_s1 hvb0 h61]; rfl) | rw [bpN_s0 hvb0 h61]) (lL1 (by first | with_reducible rfl | (rw [bpN_s1 hvb0 h61]; rfl) | rw [bpN_s0 hvb0 h61]) (lC1 (lI1 (by first | with_reducible rfl | (rw [bpN_s1 hvb0 h61]; rfl) | rw [bpN_s0 hvb0 h61]) (lC1 (lC1 (lC1 rfl))))))))))) rfl (by rfl)
        exact WP.cg (lp44 (max H (i + 1) - (i + 1)) (i + 1) _ _ _ (by omega) (Nat.le_refl _) (by first | rfl | assumption)) (lC1 (lC1 (lI1 (by first | with_reducible rfl | (rw [Nat.sub_self]; rfl)) (lI1 (by first | with_reducible rfl | (rw [Nat.sub_self]; rfl)) (lI1 (by first | with_reducible rfl | (rw [Nat.sub_self]; rfl)) (lL1 (by first | with_reducible rfl | (rw [Nat.sub_self]; rfl)) (lC1 (lI1 (by first | with_reducible rfl | (rw [Nat.sub_self]; rfl)) (lC1 (lC1 (lC1 rfl))))))))))) rfl (by rfl)
      · intro h12
        first | refine wp_iinc3 (w := nI 1) (pc' := 18) rfl rfl rfl (by with_reducible exact nI_add _ _) rfl ?_ | refine wp_iinc3 (w := nI 1) (pc' := 18) rfl rfl rfl rfl rfl ?_
        refine wp_goto rfl ?_
        exact WP.cg (ih (i + 1) _ _ _ _ _ _ _ (by omega) (by rw [lowF, if_pos h12] at hv0; exact hv0) (by first | rfl | assumption) (by first | rfl | assumption) (by first | rfl | assumption) (by first | rfl | assumption) (by first | rfl | assumption) (by first | rfl | assumption) (by first | rfl | assumption)) (lC1 (lC1 (lI1 (by rfl) (lI1 (by rfl) (lC1 (lC1 (lC1 (lC1 (lC1 (lC1 (lC1 rfl))))))))))) rfl (by first | with_reducible rfl | (simp only [forN, *, ↓reduceIte, not_true_eq_false, not_false_eq_true, and_self, and_true, true_and, and_false, false_and]; done) | rfl | (simp_all [forN]; done))
  exact WP.cg (lp2 (5 - (0)) (0) _ _ _ _ _ _ _ (by omega) rfl (by first | rfl | assumption) (by first | rfl | assumption) (by first | rfl | assumption) (by first | rfl | assumption) (by first | rfl | assumption) (by first | rfl | assumption) (by first | rfl | assumption)) (lC1 (lC1 (lI1 (by rfl) (lI1 (by rfl) (lC1 (lC1 (lC1 (lC1 (lC1 (lC1 (lC1 rfl))))))))))) rfl (by first | with_reducible rfl | (simp only [forN, *, ↓reduceIte, not_true_eq_false, not_false_eq_true, and_self, and_true, true_and, and_false, false_and]; done) | rfl | (simp_all [forN]; done))
theorem c_pairN {d : Nat} {K : Nat → Nat × Nat} {I : Nat → Nat → Int32} {L : Nat → Nat → Int64} {R : Nat → Nat → Option Nat} {n s : Nat} {Q : Lo → Lm → Prop} {b H h : Nat} (hT : TK K R n) (hS : TS K L) (hb : StK K R n b) (hH : I b 10 = nI H) (hH6 : H ≤ 6)  (kk : Q (.inl (some (.int ((prSum (prB (vw b I) H (L 173) (2 ^ H - 1) (2 ^ H - 1))).toInt32)))) (K, I, upr L 173 (prB (vw b I) H (L 173) (2 ^ H - 1)), R, n, s)) : Ok (d + 3) 188 [.ref 172, .ref b, .int (-1)] (K, I, L, R, n, s) Q := by
  obtain ⟨-, -, hn⟩ := id hT
  obtain ⟨k0, k1, k2, k3, k4, k5, k6, k7, k8, k9, k10, k11, r0, r1, r2, r3, r4, r5, r6, r7, r8, r9, r10, hbn⟩ := id hb
  obtain ⟨p1, p2, p3, p4⟩ := shl7 ⟨H, by omega⟩
  have p1 : jshl (nI 1) (nI H) = nI (2 ^ H) := p1
  have p3 : 1 ≤ 2 ^ H := p3
  have p4 : 2 ^ H ≤ 64 := p4
  refine Ok.enter (F := F_188) (ls := [.ref 172, .ref b, .int (-1), lDead, lDead, lDead, lDead, lDead]) rfl rfl ?_
  refine wp_aload0 (pc' := 1) rfl rfl ?_
  refine wp_getRF (pc' := 4) rfl rfl (by first | exact TK.k1 hT rfl | exact TK.kk hT rfl | exact TK.r hT rfl | assumption) (by first | exact TK.k1 hT rfl | exact TK.kk hT rfl | exact TK.r hT rfl | assumption) rfl ?_
  refine wp_iconst (v := nI 0) (pc' := 5) rfl rfl rfl ?_
  refine wp_lconst (v := 0) (pc' := 6) rfl rfl rfl ?_
  refine wp_last _ (pc' := 7) rfl (by first | exact TK.k1 hT rfl | exact TK.kk hT rfl | exact TK.r hT rfl | assumption) (by omega) (by with_reducible rfl) (by omega) (by first | decide | assumption | omega) rfl ?_
  refine wp_iconst (v := nI 1) (pc' := 8) rfl rfl rfl ?_
  refine wp_aload1 (pc' := 9) rfl rfl ?_
  refine wp_getI (pc' := 12) rfl rfl (by first | exact TK.k1 hT rfl | exact TK.kk hT rfl | exact TK.r hT rfl | assumption) rfl ?_
  rw [hH]
  refine wp_ishl (pc' := 13) rfl rfl ?_
  rw [p1]
  refine wp_istore3 (pc' := 14) rfl (by first | rfl | assumption) rfl ?_
  refine wp_iconst (v := nI 1) (pc' := 15) rfl rfl rfl ?_
  refine wp_istore4 (pc' := 17) rfl (by first | rfl | assumption) rfl ?_
  have lp17 : ∀ r (i : Nat) (v5 : Value) (v6 : Value) (v7 : Value), i + r = 2 ^ H → 1 ≤ i → isL v5 = false → isL v6 = false → isL v7 = false → WP (d + 2) F_188 17 [.ref 172, .ref b, .int (-1), .int (nI (2 ^ H)), .int (nI i), v5, v6, v7] [] (K, I, upr L 173 (prB (vw b I) H (L 173) (i - 1)), R, n, s) Q := by
    intro r; induction r with
    | zero =>
      intro i v5 v6 v7 hi hv0 hv1 hv2 hv3
      have hi2 : i = 2 ^ H := by omega
      rw [hi2]
      refine wp_iload4 (pc' := 19) rfl rfl ?_
      refine wp_iload3 (pc' := 20) rfl rfl ?_
      refine wp_icmpgeT rfl (nI_nlt (by omega) (by omega)) ?_
      generalize hZ : prB (vw b I) H (L 173) (2 ^ H - 1) = Z
      refine wp_aload0 (pc' := 51) rfl rfl ?_
      refine wp_getRF (pc' := 54) rfl rfl (by first | exact TK.k1 hT rfl | exact TK.kk hT rfl | exact TK.r hT rfl | assumption) (by first | exact TK.k1 hT rfl | exact TK.kk hT rfl | exact TK.r hT rfl | assumption) rfl ?_
      refine wp_iload3 (pc' := 55) rfl rfl ?_
      refine wp_iconst (v := nI 1) (pc' := 56) rfl rfl rfl ?_
      first | refine wp_isubN (pc' := 57) rfl (by with_reducible rfl) (by with_reducible rfl) (by omega) rfl ?_ | refine wp_isub (pc' := 57) rfl rfl ?_
      refine wp_bipush (v := nI 63) (pc' := 59) rfl rfl rfl ?_
      refine wp_iand (pc' := 60) rfl rfl ?_
      rw [and63 ⟨H, by omega⟩]
      refine wp_lald (2 ^ H - 1) (pc' := 61) rfl (TK.kk hT rfl) rfl (by omega) (by decide) rfl ?_
      rw [upr_same]
      refine wp_lstore4 (pc' := 63) rfl (by first | rfl | assumption) rfl ?_
      refine wp_lload4 (pc' := 65) rfl rfl ?_
      refine wp_pool (v := .long (117649)) (pc' := 68) rfl rfl rfl rfl rfl ?_
      refine wp_ladd (pc' := 69) rfl rfl ?_
      refine wp_lconst (v := 1) (pc' := 70) rfl rfl rfl ?_
      refine wp_lsub (pc' := 71) rfl rfl ?_
      refine wp_pool (v := .long (117649)) (pc' := 74) rfl rfl rfl rfl rfl ?_
      refine wp_ldiv (pc' := 75) rfl (by decide) rfl ?_
      refine wp_lstore6 (pc' := 77) rfl (by first | rfl | assumption) rfl ?_
      refine wp_iload2 (pc' := 78) rfl rfl ?_
      refine wp_ifltT rfl (by decide) ?_
      refine wp_lload6 (pc' := 89) rfl rfl ?_
      refine wp_l2i (pc' := 90) rfl rfl ?_
      refine wp_iret rfl rfl rfl ?_
      exact Qv kk (by rw [hZ]; rfl) (by rw [hZ])
    | succ r ih =>
      intro i v5 v6 v7 hi hv0 hv1 hv2 hv3
      have hlt : i < 2 ^ H := by omega
      have hsx : prB (vw b I) H (L 173) (i + 1 - 1) = up1 (prB (vw b I) H (L 173) (i - 1)) i (bpV (vw b I) (prB (vw b I) H (L 173) (i - 1)) H i) := by
        rw [show i + 1 - 1 = (i - 1) + 1 by omega]
        show up1 (prB (vw b I) H (L 173) (i - 1)) (1 + (i - 1)) (bpV (vw b I) (prB (vw b I) H (L 173) (i - 1)) H (1 + (i - 1))) = _
        rw [show 1 + (i - 1) = i by omega]
      generalize hG : prB (vw b I) H (L 173) (i - 1) = G at hsx ⊢
      refine wp_iload4 (pc' := 19) rfl rfl ?_
      refine wp_iload3 (pc' := 20) rfl rfl ?_
      refine wp_icmpgeF (pc' := 23) rfl (nI_lt (by omega) (by omega)) rfl ?_
      refine wp_iload4 (pc' := 25) rfl rfl ?_
      refine wp_bipush (v := nI 64) (pc' := 27) rfl rfl rfl ?_
      refine wp_icmpgeF (pc' := 30) rfl (nI_lt (by omega) (by decide)) rfl ?_
      refine wp_aload0 (pc' := 31) rfl rfl ?_
      refine wp_getRF (pc' := 34) rfl rfl (by first | exact TK.k1 hT rfl | exact TK.kk hT rfl | exact TK.r hT rfl | assumption) (by first | exact TK.k1 hT rfl | exact TK.kk hT rfl | exact TK.r hT rfl | assumption) rfl ?_
      refine wp_iload4 (pc' := 36) rfl rfl ?_
      refine wp_aload0 (pc' := 37) rfl rfl ?_
      refine wp_aload1 (pc' := 38) rfl rfl ?_
      refine wp_iload4 (pc' := 40) rfl rfl ?_
      refine wp_callV3 (pc' := 43) rfl rfl rfl rfl rfl (by first | exact TK.k1 hT rfl | exact TK.kk hT rfl | exact TK.r hT rfl | assumption) rfl rfl ?_
      refine c_bestPairs hT hS hb hH hH6 (by omega) ?_
      refine Cont.v ?_
      refine wp_last i (pc' := 44) rfl (TK.kk hT rfl) (by omega) rfl (by omega) (by decide) rfl ?_
      rw [up2_upr]
      first | refine wp_iinc4 (w := nI 1) (pc' := 47) rfl rfl rfl (by with_reducible exact nI_add _ _) rfl ?_ | refine wp_iinc4 (w := nI 1) (pc' := 47) rfl rfl rfl rfl rfl ?_
      refine wp_goto rfl ?_
      exact WP.cg (ih (i + 1) _ _ _ (by omega) (by omega) (by first | rfl | assumption) (by first | rfl | assumption) (by first | rfl | assumption)) (lC1 (lC1 (lI1 (by with_reducible rfl) (lI1 (by with_reducible rfl) (lI1 (by with_reducible rfl) (lC1 (lC1 (lC1 rfl)))))))) rfl (by rw [hsx])
  exact WP.cg (lp17 (2 ^ H - (1)) (1) _ _ _ (by omega) (by decide) (by first | rfl | assumption) (by first | rfl | assumption) (by first | rfl | assumption)) (lC1 (lC1 (lI1 (by with_reducible rfl) (lI1 (by with_reducible rfl) (lI1 (by with_reducible rfl) (lC1 (lC1 (lC1 rfl)))))))) rfl (by exact mL1 up2_asL)
theorem c_pairH {d : Nat} {K : Nat → Nat × Nat} {I : Nat → Nat → Int32} {L : Nat → Nat → Int64} {R : Nat → Nat → Option Nat} {n s : Nat} {Q : Lo → Lm → Prop} {b H h : Nat} (hT : TK K R n) (hS : TS K L) (hb : StK K R n b) (hH : I b 10 = nI H) (hH6 : H ≤ 6) (hh : h < 6) (kk : Q (.inl (some (.int (prV (prB (vw b I) H (L 173) (2 ^ H - 1) (2 ^ H - 1)) h)))) (K, I, upr L 173 (prB (vw b I) H (L 173) (2 ^ H - 1)), R, n, s)) : Ok (d + 3) 188 [.ref 172, .ref b, .int (nI h)] (K, I, L, R, n, s) Q := by
  obtain ⟨-, -, hn⟩ := id hT
  obtain ⟨k0, k1, k2, k3, k4, k5, k6, k7, k8, k9, k10, k11, r0, r1, r2, r3, r4, r5, r6, r7, r8, r9, r10, hbn⟩ := id hb
  obtain ⟨p1, p2, p3, p4⟩ := shl7 ⟨H, by omega⟩
  have p1 : jshl (nI 1) (nI H) = nI (2 ^ H) := p1
  have p3 : 1 ≤ 2 ^ H := p3
  have p4 : 2 ^ H ≤ 64 := p4
  refine Ok.enter (F := F_188) (ls := [.ref 172, .ref b, .int (nI h), lDead, lDead, lDead, lDead, lDead]) rfl rfl ?_
  refine wp_aload0 (pc' := 1) rfl rfl ?_
  refine wp_getRF (pc' := 4) rfl rfl (by first | exact TK.k1 hT rfl | exact TK.kk hT rfl | exact TK.r hT rfl | assumption) (by first | exact TK.k1 hT rfl | exact TK.kk hT rfl | exact TK.r hT rfl | assumption) rfl ?_
  refine wp_iconst (v := nI 0) (pc' := 5) rfl rfl rfl ?_
  refine wp_lconst (v := 0) (pc' := 6) rfl rfl rfl ?_
  refine wp_last _ (pc' := 7) rfl (by first | exact TK.k1 hT rfl | exact TK.kk hT rfl | exact TK.r hT rfl | assumption) (by omega) (by with_reducible rfl) (by omega) (by first | decide | assumption | omega) rfl ?_
  refine wp_iconst (v := nI 1) (pc' := 8) rfl rfl rfl ?_
  refine wp_aload1 (pc' := 9) rfl rfl ?_
  refine wp_getI (pc' := 12) rfl rfl (by first | exact TK.k1 hT rfl | exact TK.kk hT rfl | exact TK.r hT rfl | assumption) rfl ?_
  rw [hH]
  refine wp_ishl (pc' := 13) rfl rfl ?_
  rw [p1]
  refine wp_istore3 (pc' := 14) rfl (by first | rfl | assumption) rfl ?_
  refine wp_iconst (v := nI 1) (pc' := 15) rfl rfl rfl ?_
  refine wp_istore4 (pc' := 17) rfl (by first | rfl | assumption) rfl ?_
  have lp17 : ∀ r (i : Nat) (v5 : Value) (v6 : Value) (v7 : Value), i + r = 2 ^ H → 1 ≤ i → isL v5 = false → isL v6 = false → isL v7 = false → WP (d + 2) F_188 17 [.ref 172, .ref b, .int (nI h), .int (nI (2 ^ H)), .int (nI i), v5, v6, v7] [] (K, I, upr L 173 (prB (vw b I) H (L 173) (i - 1)), R, n, s) Q := by
    intro r; induction r with
    | zero =>
      intro i v5 v6 v7 hi hv0 hv1 hv2 hv3
      have hi2 : i = 2 ^ H := by omega
      rw [hi2]
      refine wp_iload4 (pc' := 19) rfl rfl ?_
      refine wp_iload3 (pc' := 20) rfl rfl ?_
      refine wp_icmpgeT rfl (nI_nlt (by omega) (by omega)) ?_
      generalize hZ : prB (vw b I) H (L 173) (2 ^ H - 1) = Z
      refine wp_aload0 (pc' := 51) rfl rfl ?_
      refine wp_getRF (pc' := 54) rfl rfl (by first | exact TK.k1 hT rfl | exact TK.kk hT rfl | exact TK.r hT rfl | assumption) (by first | exact TK.k1 hT rfl | exact TK.kk hT rfl | exact TK.r hT rfl | assumption) rfl ?_
      refine wp_iload3 (pc' := 55) rfl rfl ?_
      refine wp_iconst (v := nI 1) (pc' := 56) rfl rfl rfl ?_
      first | refine wp_isubN (pc' := 57) rfl (by with_reducible rfl) (by with_reducible rfl) (by omega) rfl ?_ | refine wp_isub (pc' := 57) rfl rfl ?_
      refine wp_bipush (v := nI 63) (pc' := 59) rfl rfl rfl ?_
      refine wp_iand (pc' := 60) rfl rfl ?_
      rw [and63 ⟨H, by omega⟩]
      refine wp_lald (2 ^ H - 1) (pc' := 61) rfl (TK.kk hT rfl) rfl (by omega) (by decide) rfl ?_
      rw [upr_same]
      refine wp_lstore4 (pc' := 63) rfl (by first | rfl | assumption) rfl ?_
      refine wp_lload4 (pc' := 65) rfl rfl ?_
      refine wp_pool (v := .long (117649)) (pc' := 68) rfl rfl rfl rfl rfl ?_
      refine wp_ladd (pc' := 69) rfl rfl ?_
      refine wp_lconst (v := 1) (pc' := 70) rfl rfl rfl ?_
      refine wp_lsub (pc' := 71) rfl rfl ?_
      refine wp_pool (v := .long (117649)) (pc' := 74) rfl rfl rfl rfl rfl ?_
      refine wp_ldiv (pc' := 75) rfl (by decide) rfl ?_
      refine wp_lstore6 (pc' := 77) rfl (by first | rfl | assumption) rfl ?_
      refine wp_iload2 (pc' := 78) rfl rfl ?_
      refine wp_ifltF (pc' := 81) rfl (nI_pos (by omega)) rfl ?_
      refine wp_iload2 (pc' := 82) rfl rfl ?_
      refine wp_bipush (v := nI 6) (pc' := 84) rfl rfl rfl ?_
      refine wp_icmpltT rfl (nI_lt (by omega) (by decide)) ?_
      refine wp_lload6 (pc' := 93) rfl rfl ?_
      refine wp_pool (v := .long (117649)) (pc' := 96) rfl rfl rfl rfl rfl ?_
      refine wp_lmul (pc' := 97) rfl rfl ?_
      refine wp_lload4 (pc' := 99) rfl rfl ?_
      refine wp_lsub (pc' := 100) rfl rfl ?_
      refine wp_pool (v := .ref (lmB + 1001)) (pc' := 103) rfl rfl rfl rfl rfl ?_
      refine wp_iload2 (pc' := 104) rfl rfl ?_
      refine wp_lald h (pc' := 105) rfl (hS.1 1 (by decide)) rfl (by omega) (by decide) rfl ?_
      rw [TS_pd (TS_upr hS)]
      refine wp_ldiv (pc' := 106) rfl (cd_ne hh).2 rfl ?_
      refine wp_pool (v := .long (7)) (pc' := 109) rfl rfl rfl rfl rfl ?_
      refine wp_lrem (pc' := 110) rfl (by decide) rfl ?_
      refine wp_l2i (pc' := 111) rfl rfl ?_
      refine wp_iconst (v := nI 1) (pc' := 112) rfl rfl rfl ?_
      first | refine wp_isubN (pc' := 113) rfl (by with_reducible rfl) (by with_reducible rfl) (by omega) rfl ?_ | refine wp_isub (pc' := 113) rfl rfl ?_
      refine wp_iret rfl rfl rfl ?_
      exact Qv kk (by rw [hZ]; rfl) (by rw [hZ])
    | succ r ih =>
      intro i v5 v6 v7 hi hv0 hv1 hv2 hv3
      have hlt : i < 2 ^ H := by omega
      have hsx : prB (vw b I) H (L 173) (i + 1 - 1) = up1 (prB (vw b I) H (L 173) (i - 1)) i (bpV (vw b I) (prB (vw b I) H (L 173) (i - 1)) H i) := by
        rw [show i + 1 - 1 = (i - 1) + 1 by omega]
        show up1 (prB (vw b I) H (L 173) (i - 1)) (1 + (i - 1)) (bpV (vw b I) (prB (vw b I) H (L 173) (i - 1)) H (1 + (i - 1))) = _
        rw [show 1 + (i - 1) = i by omega]
      generalize hG : prB (vw b I) H (L 173) (i - 1) = G at hsx ⊢
      refine wp_iload4 (pc' := 19) rfl rfl ?_
      refine wp_iload3 (pc' := 20) rfl rfl ?_
      refine wp_icmpgeF (pc' := 23) rfl (nI_lt (by omega) (by omega)) rfl ?_
      refine wp_iload4 (pc' := 25) rfl rfl ?_
      refine wp_bipush (v := nI 64) (pc' := 27) rfl rfl rfl ?_
      refine wp_icmpgeF (pc' := 30) rfl (nI_lt (by omega) (by decide)) rfl ?_
      refine wp_aload0 (pc' := 31) rfl rfl ?_
      refine wp_getRF (pc' := 34) rfl rfl (by first | exact TK.k1 hT rfl | exact TK.kk hT rfl | exact TK.r hT rfl | assumption) (by first | exact TK.k1 hT rfl | exact TK.kk hT rfl | exact TK.r hT rfl | assumption) rfl ?_
      refine wp_iload4 (pc' := 36) rfl rfl ?_
      refine wp_aload0 (pc' := 37) rfl rfl ?_
      refine wp_aload1 (pc' := 38) rfl rfl ?_
      refine wp_iload4 (pc' := 40) rfl rfl ?_
      refine wp_callV3 (pc' := 43) rfl rfl rfl rfl rfl (by first | exact TK.k1 hT rfl | exact TK.kk hT rfl | exact TK.r hT rfl | assumption) rfl rfl ?_
      refine c_bestPairs hT hS hb hH hH6 (by omega) ?_
      refine Cont.v ?_
      refine wp_last i (pc' := 44) rfl (TK.kk hT rfl) (by omega) rfl (by omega) (by decide) rfl ?_
      rw [up2_upr]
      first | refine wp_iinc4 (w := nI 1) (pc' := 47) rfl rfl rfl (by with_reducible exact nI_add _ _) rfl ?_ | refine wp_iinc4 (w := nI 1) (pc' := 47) rfl rfl rfl rfl rfl ?_
      refine wp_goto rfl ?_
      exact WP.cg (ih (i + 1) _ _ _ (by omega) (by omega) (by first | rfl | assumption) (by first | rfl | assumption) (by first | rfl | assumption)) (lC1 (lC1 (lI1 (by with_reducible rfl) (lI1 (by with_reducible rfl) (lI1 (by with_reducible rfl) (lC1 (lC1 (lC1 rfl)))))))) rfl (by rw [hsx])
  exact WP.cg (lp17 (2 ^ H - (1)) (1) _ _ _ (by omega) (by decide) (by first | rfl | assumption) (by first | rfl | assumption) (by first | rfl | assumption)) (lC1 (lC1 (lI1 (by with_reducible rfl) (lI1 (by with_reducible rfl) (lI1 (by with_reducible rfl) (lC1 (lC1 (lC1 rfl)))))))) rfl (by exact mL1 up2_asL)
theorem c_placedN {d : Nat} {K : Nat → Nat × Nat} {I : Nat → Nat → Int32} {L : Nat → Nat → Int64} {R : Nat → Nat → Option Nat} {n s : Nat} {Q : Lo → Lm → Prop}  (hT : TK K R n) (hS : TS K L) {H : Nat} (hH : I 1 10 = nI H) (hH6 : H ≤ 6) (kk : Q (.inl (some (.int ((plSum (mxL (plB (vw 1 I) H (L 173) 25) 64)).toInt32)))) (K, I, upr L 173 (plB (vw 1 I) H (L 173) 25), R, n, s)) : Ok (d + 4) 177 [.ref 0, .int (-1)] (K, I, L, R, n, s) Q := by
  have hb := TK.s1 hT
  obtain ⟨-, -, hn⟩ := id hT
  refine Ok.enter (F := F_177) (ls := [.ref 0, .int (-1)]) rfl rfl ?_
  refine wp_iload1 (pc' := 1) rfl rfl ?_
  refine wp_iconst (v := (-1)) (pc' := 2) rfl rfl rfl ?_
  refine wp_icmpeqT rfl rfl ?_
  refine wp_aload0 (pc' := 11) rfl rfl ?_
  refine wp_getRF (pc' := 14) rfl rfl (by first | exact TK.k1 hT rfl | exact TK.kk hT rfl | exact TK.r hT rfl | assumption) (by first | exact TK.k1 hT rfl | exact TK.kk hT rfl | exact TK.r hT rfl | assumption) rfl ?_
  refine wp_aload0 (pc' := 15) rfl rfl ?_
  refine wp_getRF (pc' := 18) rfl rfl (by first | exact TK.k1 hT rfl | exact TK.kk hT rfl | exact TK.r hT rfl | assumption) (by first | exact TK.k1 hT rfl | exact TK.kk hT rfl | exact TK.r hT rfl | assumption) rfl ?_
  refine wp_iload1 (pc' := 19) rfl rfl ?_
  refine wp_callV3 (pc' := 22) rfl rfl rfl rfl rfl (by first | exact TK.k1 hT rfl | exact TK.kk hT rfl | exact TK.r hT rfl | assumption) rfl rfl ?_
  refine c_placeN (h := 0) hT hS hb hH hH6 ?_
  refine Cont.v ?_
  refine wp_iret rfl rfl rfl ?_
  exact kk
theorem c_placedH {d : Nat} {K : Nat → Nat × Nat} {I : Nat → Nat → Int32} {L : Nat → Nat → Int64} {R : Nat → Nat → Option Nat} {n s : Nat} {Q : Lo → Lm → Prop} {x : Int32} (hT : TK K R n) (hS : TS K L) (hf : n + 1 ≤ lmCells) (hs : s + 6 ≤ lmSlots) {H : Nat} (hH : I 1 10 = nI H) (hH6 : H ≤ 6) (hx1 : ¬ x = -1) (kkE : ¬ InR x H → Q (.inr n) (exM 16 (K, I, L, R, n, s))) (kk : ∀ h, h < H → x = nI h → Q (.inl (some (.int (plV (mxL (plB (vw 1 I) H (L 173) 25) 64) h)))) (K, I, upr L 173 (plB (vw 1 I) H (L 173) 25), R, n, s)) : Ok (d + 4) 177 [.ref 0, .int x] (K, I, L, R, n, s) Q := by
  have hb := TK.s1 hT
  obtain ⟨-, -, hn⟩ := id hT
  refine Ok.enter (F := F_177) (ls := [.ref 0, .int x]) rfl rfl ?_
  refine wp_iload1 (pc' := 1) rfl rfl ?_
  refine wp_iconst (v := (-1)) (pc' := 2) rfl rfl rfl ?_
  refine wp_icmpeqF (pc' := 5) rfl hx1 rfl ?_
  refine wp_aload0 (pc' := 6) rfl rfl ?_
  refine wp_iload1 (pc' := 7) rfl rfl ?_
  refine wp_callV2 (pc' := 10) rfl rfl rfl rfl rfl (by first | exact TK.k1 hT rfl | exact TK.kk hT rfl | exact TK.r hT rfl | assumption) rfl rfl ?_
  refine c_needHearth hT hH hH6 hf hs (fun he => Cont.e rfl (kkE he)) (fun h hh hx => ?_)
  subst hx
  refine Cont.u ?_
  refine wp_aload0 (pc' := 11) rfl rfl ?_
  refine wp_getRF (pc' := 14) rfl rfl (by first | exact TK.k1 hT rfl | exact TK.kk hT rfl | exact TK.r hT rfl | assumption) (by first | exact TK.k1 hT rfl | exact TK.kk hT rfl | exact TK.r hT rfl | assumption) rfl ?_
  refine wp_aload0 (pc' := 15) rfl rfl ?_
  refine wp_getRF (pc' := 18) rfl rfl (by first | exact TK.k1 hT rfl | exact TK.kk hT rfl | exact TK.r hT rfl | assumption) (by first | exact TK.k1 hT rfl | exact TK.kk hT rfl | exact TK.r hT rfl | assumption) rfl ?_
  refine wp_iload1 (pc' := 19) rfl rfl ?_
  refine wp_callV3 (pc' := 22) rfl rfl rfl rfl rfl (by first | exact TK.k1 hT rfl | exact TK.kk hT rfl | exact TK.r hT rfl | assumption) rfl rfl ?_
  refine c_placeH hT hS hb hH hH6 (by omega) ?_
  refine Cont.v ?_
  refine wp_iret rfl rfl rfl ?_
  exact kk h hh rfl
theorem c_pairsN {d : Nat} {K : Nat → Nat × Nat} {I : Nat → Nat → Int32} {L : Nat → Nat → Int64} {R : Nat → Nat → Option Nat} {n s : Nat} {Q : Lo → Lm → Prop}  (hT : TK K R n) (hS : TS K L) {H : Nat} (hH : I 1 10 = nI H) (hH6 : H ≤ 6) (kk : Q (.inl (some (.int ((prSum (prB (vw 1 I) H (L 173) (2 ^ H - 1) (2 ^ H - 1))).toInt32)))) (K, I, upr L 173 (prB (vw 1 I) H (L 173) (2 ^ H - 1)), R, n, s)) : Ok (d + 4) 187 [.ref 0, .int (-1)] (K, I, L, R, n, s) Q := by
  have hb := TK.s1 hT
  obtain ⟨-, -, hn⟩ := id hT
  refine Ok.enter (F := F_187) (ls := [.ref 0, .int (-1)]) rfl rfl ?_
  refine wp_iload1 (pc' := 1) rfl rfl ?_
  refine wp_iconst (v := (-1)) (pc' := 2) rfl rfl rfl ?_
  refine wp_icmpeqT rfl rfl ?_
  refine wp_aload0 (pc' := 11) rfl rfl ?_
  refine wp_getRF (pc' := 14) rfl rfl (by first | exact TK.k1 hT rfl | exact TK.kk hT rfl | exact TK.r hT rfl | assumption) (by first | exact TK.k1 hT rfl | exact TK.kk hT rfl | exact TK.r hT rfl | assumption) rfl ?_
  refine wp_aload0 (pc' := 15) rfl rfl ?_
  refine wp_getRF (pc' := 18) rfl rfl (by first | exact TK.k1 hT rfl | exact TK.kk hT rfl | exact TK.r hT rfl | assumption) (by first | exact TK.k1 hT rfl | exact TK.kk hT rfl | exact TK.r hT rfl | assumption) rfl ?_
  refine wp_iload1 (pc' := 19) rfl rfl ?_
  refine wp_callV3 (pc' := 22) rfl rfl rfl rfl rfl (by first | exact TK.k1 hT rfl | exact TK.kk hT rfl | exact TK.r hT rfl | assumption) rfl rfl ?_
  refine c_pairN (h := 0) hT hS hb hH hH6 ?_
  refine Cont.v ?_
  refine wp_iret rfl rfl rfl ?_
  exact kk
theorem c_pairsH {d : Nat} {K : Nat → Nat × Nat} {I : Nat → Nat → Int32} {L : Nat → Nat → Int64} {R : Nat → Nat → Option Nat} {n s : Nat} {Q : Lo → Lm → Prop} {x : Int32} (hT : TK K R n) (hS : TS K L) (hf : n + 1 ≤ lmCells) (hs : s + 6 ≤ lmSlots) {H : Nat} (hH : I 1 10 = nI H) (hH6 : H ≤ 6) (hx1 : ¬ x = -1) (kkE : ¬ InR x H → Q (.inr n) (exM 16 (K, I, L, R, n, s))) (kk : ∀ h, h < H → x = nI h → Q (.inl (some (.int (prV (prB (vw 1 I) H (L 173) (2 ^ H - 1) (2 ^ H - 1)) h)))) (K, I, upr L 173 (prB (vw 1 I) H (L 173) (2 ^ H - 1)), R, n, s)) : Ok (d + 4) 187 [.ref 0, .int x] (K, I, L, R, n, s) Q := by
  have hb := TK.s1 hT
  obtain ⟨-, -, hn⟩ := id hT
  refine Ok.enter (F := F_187) (ls := [.ref 0, .int x]) rfl rfl ?_
  refine wp_iload1 (pc' := 1) rfl rfl ?_
  refine wp_iconst (v := (-1)) (pc' := 2) rfl rfl rfl ?_
  refine wp_icmpeqF (pc' := 5) rfl hx1 rfl ?_
  refine wp_aload0 (pc' := 6) rfl rfl ?_
  refine wp_iload1 (pc' := 7) rfl rfl ?_
  refine wp_callV2 (pc' := 10) rfl rfl rfl rfl rfl (by first | exact TK.k1 hT rfl | exact TK.kk hT rfl | exact TK.r hT rfl | assumption) rfl rfl ?_
  refine c_needHearth hT hH hH6 hf hs (fun he => Cont.e rfl (kkE he)) (fun h hh hx => ?_)
  subst hx
  refine Cont.u ?_
  refine wp_aload0 (pc' := 11) rfl rfl ?_
  refine wp_getRF (pc' := 14) rfl rfl (by first | exact TK.k1 hT rfl | exact TK.kk hT rfl | exact TK.r hT rfl | assumption) (by first | exact TK.k1 hT rfl | exact TK.kk hT rfl | exact TK.r hT rfl | assumption) rfl ?_
  refine wp_aload0 (pc' := 15) rfl rfl ?_
  refine wp_getRF (pc' := 18) rfl rfl (by first | exact TK.k1 hT rfl | exact TK.kk hT rfl | exact TK.r hT rfl | assumption) (by first | exact TK.k1 hT rfl | exact TK.kk hT rfl | exact TK.r hT rfl | assumption) rfl ?_
  refine wp_iload1 (pc' := 19) rfl rfl ?_
  refine wp_callV3 (pc' := 22) rfl rfl rfl rfl rfl (by first | exact TK.k1 hT rfl | exact TK.kk hT rfl | exact TK.r hT rfl | assumption) rfl rfl ?_
  refine c_pairH hT hS hb hH hH6 (by omega) ?_
  refine Cont.v ?_
  refine wp_iret rfl rfl rfl ?_
  exact kk h hh rfl
