/-! THE REFERENCE: the spit that leaves nothing -/
abbrev spiP (x hp : Int32) (d c k : Nat) : Prop := hasP x c ∧ hp ^^^ nI (d % 4) ^^^ nI ((d - k) % 4) = nI 0
def spiI (x hp : Int32) (d c mn : Nat) (y : Int32) (j : Nat) : Int32 := forN (fun j y => if spiP x hp d c (mn - j) then nI (4 * c + (mn - j)) else y) y j
def spiN (x hp : Int32) (dp : Nat → Nat) (i : Nat) : Int32 := forN (fun i y => spiI x hp (dp (24 - i)) (24 - i) (min 3 (dp (24 - i))) y (min 3 (dp (24 - i)))) (-1) i
theorem spiI_s {x hp : Int32} {d c mn : Nat} {y : Int32} {j : Nat} : spiI x hp d c mn y (j + 1) = if spiP x hp d c (mn - j) then nI (4 * c + (mn - j)) else spiI x hp d c mn y j := rfl

theorem m_spit {d : Nat} {K : Nat → Nat × Nat} {I : Nat → Nat → Int32} {L : Nat → Nat → Int64} {R : Nat → Nat → Option Nat} {n s : Nat} {Q : Lo → Lm → Prop} {x : Int32} {dp : Nat → Nat} (hT : TK K R n) (hdp : ∀ q, q < 25 → I 319 (9 + 6 * q + 0) = nI (dp q) ∧ dp q ≤ 9) (kk : Q (.inl (some (.int (spiN x (heaC (Sv (I 319)) x 25) dp 25)))) (K, up2 I 318 0 (nI 0), L, R, n, s)) : Ok (d + 4) 337 [.ref 318, .int x] (K, I, L, R, n, s) Q := by
  obtain ⟨-, -, hn⟩ := id hT
  refine Ok.enter (F := F_337) (ls := [.ref 318, .int x, lDead, lDead, lDead, lDead, lDead]) rfl rfl ?_
  refine wp_aload0 (pc' := 1) rfl rfl ?_
  refine wp_iconst (v := nI 0) (pc' := 2) rfl rfl rfl ?_
  refine wp_putI (pc' := 5) rfl rfl (by first | exact TK.k1 hT rfl | exact TK.kk hT rfl | exact TK.r hT rfl | assumption) (by omega) rfl ?_
  obtain ⟨M, hM⟩ : ∃ M, M = up2 I 318 0 (nI 0) := ⟨_, rfl⟩
  have hM9 : M 319 = I 319 := by rw [hM]; exact up2_row (by decide)
  have hM7 : M 318 7 = I 318 7 := by rw [hM, up2_same, if_neg (by decide)]
  rw [← hM]
  refine wp_aload0 (pc' := 6) rfl rfl ?_
  refine wp_iload1 (pc' := 7) rfl rfl ?_
  refine wp_callV2 (pc' := 10) rfl rfl rfl rfl rfl (by first | exact TK.k1 hT rfl | exact TK.kk hT rfl | exact TK.r hT rfl | assumption) rfl rfl ?_
  refine m_heapOf hT ?_
  rw [hM9]
  refine Cont.v ?_
  refine wp_istore2 (pc' := 11) rfl (by first | rfl | assumption) rfl ?_
  refine wp_iconst (v := (-1)) (pc' := 12) rfl rfl rfl ?_
  refine wp_istore3 (pc' := 13) rfl (by first | rfl | assumption) rfl ?_
  refine wp_bipush (v := nI 24) (pc' := 15) rfl rfl rfl ?_
  refine wp_istore4 (pc' := 17) rfl (by first | rfl | assumption) rfl ?_
  have lp17 : ∀ r (i : Nat) (v5 : Value) (v6 : Value), i + r = 25 → isL v5 = false → isL v6 = false → WP (d + 3) F_337 17 [.ref 318, .int x, .int (heaC (Sv (I 319)) x 25), .int (spiN x (heaC (Sv (I 319)) x 25) dp i), .int (nI 24 - nI i), v5, v6] [] (K, M, L, R, n, s) Q := by
    intro r; induction r with
    | zero =>
      intro i v5 v6 hi hv0 hv1
      have hi2 : i = 25 := by omega
      subst hi2
      refine wp_iload4 (pc' := 19) rfl rfl ?_
      refine wp_ifltT rfl (by decide) ?_
      refine wp_iload3 (pc' := 105) rfl rfl ?_
      refine wp_iret rfl rfl rfl ?_
      rw [hM]
      exact kk
    | succ r ih =>
      intro i v5 v6 hi hv0 hv1
      have hlt : i < 25 := by omega
      rw [nI_sub (show i ≤ 24 by omega)]
      obtain ⟨c, hc⟩ : ∃ c, 24 - i = c := ⟨_, rfl⟩
      have hD : nI c + (-1) = nI 24 - nI (i + 1) := by rw [← hc]; exact dec24 ⟨i, by omega⟩
      have hsx : spiN x (heaC (Sv (I 319)) x 25) dp (i + 1) = spiI x (heaC (Sv (I 319)) x 25) (dp c) c (min 3 (dp c)) (spiN x (heaC (Sv (I 319)) x 25) dp i) (min 3 (dp c)) := by rw [← hc]; rfl
      rw [hc]
      have hd9 := (hdp c (by omega)).2
      refine wp_iload4 (pc' := 19) rfl rfl ?_
      refine wp_ifltF (pc' := 22) rfl (nI_pos (by omega)) rfl ?_
      refine wp_iconst (v := nI 3) (pc' := 23) rfl rfl rfl ?_
      refine wp_aload0 (pc' := 24) rfl rfl ?_
      refine wp_iload4 (pc' := 26) rfl rfl ?_
      refine wp_iconst (v := nI 0) (pc' := 27) rfl rfl rfl ?_
      refine wp_callV3 (pc' := 30) rfl rfl rfl rfl rfl (by first | exact TK.k1 hT rfl | exact TK.kk hT rfl | exact TK.r hT rfl | assumption) rfl rfl ?_
      refine m_of hT (by omega) (by decide) ?_
      rw [hM9, (hdp _ (by omega)).1]
      refine Cont.v ?_
      refine wp_min (pc' := 33) rfl rfl rfl rfl ?_
      refine wp_istore5 (pc' := 35) rfl (by first | rfl | assumption) rfl ?_
      have lp35 : ∀ rb (j : Nat) (v6 : Value), j + rb = (min 3 (dp c)) → isL v6 = false → WP (d + 3) F_337 35 [.ref 318, .int x, .int (heaC (Sv (I 319)) x 25), .int (spiI x (heaC (Sv (I 319)) x 25) (dp c) c (min 3 (dp c)) (spiN x (heaC (Sv (I 319)) x 25) dp i) j), .int (nI c), .int (nI (min 3 (dp c) - j)), v6] [] (K, M, L, R, n, s) Q := by
        intro rb; induction rb with
        | zero =>
          intro j v6 hib hvb0
          have hi2b : j = (min 3 (dp c)) := by omega
          rw [hi2b]
          refine wp_iload5 (pc' := 37) rfl rfl ?_
          refine wp_ifleT rfl (by rw [Nat.sub_self]; decide) ?_
          first | refine wp_iinc4 (w := (-1)) (pc' := 101) rfl rfl rfl (by with_reducible exact nI_sub1 (by omega)) rfl ?_ | refine wp_iinc4 (w := (-1)) (pc' := 101) rfl rfl rfl rfl rfl ?_
          refine wp_goto rfl ?_
          exact WP.cg (ih (i + 1) _ _ (by omega) (by first | rfl | assumption) (by first | rfl | assumption)) (lC1 (lI1 (by first | with_reducible rfl | with_reducible exact hD | (rw [hsx]; done)) (lI1 (by first | with_reducible rfl | with_reducible exact hD | (rw [hsx]; done)) (lI1 (by first | with_reducible rfl | with_reducible exact hD | (rw [hsx]; done)) (lI1 (by first | with_reducible rfl | with_reducible exact hD | (rw [hsx]; done)) (lC1 (lC1 rfl))))))) rfl (by rfl)
        | succ rb ihb =>
          intro j v6 hib hvb0
          have hltb : j < (min 3 (dp c)) := by omega
          refine wp_iload5 (pc' := 37) rfl rfl ?_
          refine wp_ifleF (pc' := 40) rfl (nI_lt (by omega) (by omega)) rfl ?_
          refine wp_iload2 (pc' := 41) rfl rfl ?_
          refine wp_aload0 (pc' := 42) rfl rfl ?_
          refine wp_iload4 (pc' := 44) rfl rfl ?_
          refine wp_iconst (v := nI 0) (pc' := 45) rfl rfl rfl ?_
          refine wp_callV3 (pc' := 48) rfl rfl rfl rfl rfl (by first | exact TK.k1 hT rfl | exact TK.kk hT rfl | exact TK.r hT rfl | assumption) rfl rfl ?_
          refine m_of hT (by omega) (by decide) ?_
          rw [hM9, (hdp _ (by omega)).1]
          refine Cont.v ?_
          refine wp_iconst (v := nI 4) (pc' := 49) rfl rfl rfl ?_
          first | refine wp_iremN (pc' := 50) rfl (by with_reducible rfl) (by with_reducible rfl) (by omega) (by omega) (by omega) rfl ?_ | refine wp_irem (pc' := 50) rfl (by decide) rfl ?_
          refine wp_ixor (pc' := 51) rfl rfl ?_
          refine wp_aload0 (pc' := 52) rfl rfl ?_
          refine wp_iload4 (pc' := 54) rfl rfl ?_
          refine wp_iconst (v := nI 0) (pc' := 55) rfl rfl rfl ?_
          refine wp_callV3 (pc' := 58) rfl rfl rfl rfl rfl (by first | exact TK.k1 hT rfl | exact TK.kk hT rfl | exact TK.r hT rfl | assumption) rfl rfl ?_
          refine m_of hT (by omega) (by decide) ?_
          rw [hM9, (hdp _ (by omega)).1]
          refine Cont.v ?_
          refine wp_iload5 (pc' := 60) rfl rfl ?_
          first | refine wp_isubN (pc' := 61) rfl (by with_reducible rfl) (by with_reducible rfl) (by omega) rfl ?_ | refine wp_isub (pc' := 61) rfl rfl ?_
          refine wp_iconst (v := nI 4) (pc' := 62) rfl rfl rfl ?_
          first | refine wp_iremN (pc' := 63) rfl (by with_reducible rfl) (by with_reducible rfl) (by omega) (by omega) (by omega) rfl ?_ | refine wp_irem (pc' := 63) rfl (by decide) rfl ?_
          refine wp_ixor (pc' := 64) rfl rfl ?_
          refine wp_istore6 (pc' := 66) rfl (by first | rfl | assumption) rfl ?_
          refine wp_iload1 (pc' := 67) rfl rfl ?_
          refine wp_iload4 (pc' := 69) rfl rfl ?_
          refine wp_callS2 (pc' := 72) rfl rfl rfl rfl rfl rfl ?_
          refine m_has ?_
          refine Cont.v ?_
          first | refine wp_ifeqB (pc' := 75) rfl rfl ?_ ?_ | refine wp_ifeq (pc' := 75) rfl rfl ?_ ?_
          · intro h72
            refine wp_iload3 (pc' := 91) rfl rfl ?_
            refine wp_istore3 (pc' := 92) rfl (by first | rfl | assumption) rfl ?_
            first | refine wp_iinc5 (w := (-1)) (pc' := 95) rfl rfl rfl (by with_reducible exact nI_sub1 (by omega)) rfl ?_ | refine wp_iinc5 (w := (-1)) (pc' := 95) rfl rfl rfl rfl rfl ?_
            refine wp_goto rfl ?_
            exact WP.cg (ihb (j + 1) _ (by omega) (by first | rfl | assumption)) (lC1 (lI1 (by first | with_reducible rfl | (show nI (min 3 (dp c) - j - 1) = nI (min 3 (dp c) - (j + 1)); rw [Nat.sub_sub]; done) | (rw [spiI_s, if_pos (show spiP x (heaC (Sv (I 319)) x 25) (dp c) c (min 3 (dp c) - j) from And.intro h72 h77)]; done) | (rw [spiI_s, if_neg (show ¬ spiP x (heaC (Sv (I 319)) x 25) (dp c) c (min 3 (dp c) - j) from fun q => h77 q.2)]; done) | (rw [spiI_s, if_neg (show ¬ spiP x (heaC (Sv (I 319)) x 25) (dp c) c (min 3 (dp c) - j) from fun q => h72 q.1)]; done)) (lI1 (by first | with_reducible rfl | (show nI (min 3 (dp c) - j - 1) = nI (min 3 (dp c) - (j + 1)); rw [Nat.sub_sub]; done) | (rw [spiI_s, if_pos (show spiP x (heaC (Sv (I 319)) x 25) (dp c) c (min 3 (dp c) - j) from And.intro h72 h77)]; done) | (rw [spiI_s, if_neg (show ¬ spiP x (heaC (Sv (I 319)) x 25) (dp c) c (min 3 (dp c) - j) from fun q => h77 q.2)]; done) | (rw [spiI_s, if_neg (show ¬ spiP x (heaC (Sv (I 319)) x 25) (dp c) c (min 3 (dp c) - j) from fun q => h72 q.1)]; done)) (lI1 (by first | with_reducible rfl | (show nI (min 3 (dp c) - j - 1) = nI (min 3 (dp c) - (j + 1)); rw [Nat.sub_sub]; done) | (rw [spiI_s, if_pos (show spiP x (heaC (Sv (I 319)) x 25) (dp c) c (min 3 (dp c) - j) from And.intro h72 h77)]; done) | (rw [spiI_s, if_neg (show ¬ spiP x (heaC (Sv (I 319)) x 25) (dp c) c (min 3 (dp c) - j) from fun q => h77 q.2)]; done) | (rw [spiI_s, if_neg (show ¬ spiP x (heaC (Sv (I 319)) x 25) (dp c) c (min 3 (dp c) - j) from fun q => h72 q.1)]; done)) (lI1 (by first | with_reducible rfl | (show nI (min 3 (dp c) - j - 1) = nI (min 3 (dp c) - (j + 1)); rw [Nat.sub_sub]; done) | (rw [spiI_s, if_pos (show spiP x (heaC (Sv (I 319)) x 25) (dp c) c (min 3 (dp c) - j) from And.intro h72 h77)]; done) | (rw [spiI_s, if_neg (show ¬ spiP x (heaC (Sv (I 319)) x 25) (dp c) c (min 3 (dp c) - j) from fun q => h77 q.2)]; done) | (rw [spiI_s, if_neg (show ¬ spiP x (heaC (Sv (I 319)) x 25) (dp c) c (min 3 (dp c) - j) from fun q => h72 q.1)]; done)) (lI1 (by first | with_reducible rfl | (show nI (min 3 (dp c) - j - 1) = nI (min 3 (dp c) - (j + 1)); rw [Nat.sub_sub]; done) | (rw [spiI_s, if_pos (show spiP x (heaC (Sv (I 319)) x 25) (dp c) c (min 3 (dp c) - j) from And.intro h72 h77)]; done) | (rw [spiI_s, if_neg (show ¬ spiP x (heaC (Sv (I 319)) x 25) (dp c) c (min 3 (dp c) - j) from fun q => h77 q.2)]; done) | (rw [spiI_s, if_neg (show ¬ spiP x (heaC (Sv (I 319)) x 25) (dp c) c (min 3 (dp c) - j) from fun q => h72 q.1)]; done)) (lC1 rfl))))))) rfl (by rfl)
          · intro h72
            refine wp_iload6 (pc' := 77) rfl rfl ?_
            first | refine wp_ifneB (pc' := 80) rfl rfl ?_ ?_ | refine wp_ifne (pc' := 80) rfl rfl ?_ ?_
            · intro h77
              refine wp_iload3 (pc' := 91) rfl rfl ?_
              refine wp_istore3 (pc' := 92) rfl (by first | rfl | assumption) rfl ?_
              first | refine wp_iinc5 (w := (-1)) (pc' := 95) rfl rfl rfl (by with_reducible exact nI_sub1 (by omega)) rfl ?_ | refine wp_iinc5 (w := (-1)) (pc' := 95) rfl rfl rfl rfl rfl ?_
              refine wp_goto rfl ?_
              exact WP.cg (ihb (j + 1) _ (by omega) (by first | rfl | assumption)) (lC1 (lI1 (by first | with_reducible rfl | (show nI (min 3 (dp c) - j - 1) = nI (min 3 (dp c) - (j + 1)); rw [Nat.sub_sub]; done) | (rw [spiI_s, if_pos (show spiP x (heaC (Sv (I 319)) x 25) (dp c) c (min 3 (dp c) - j) from And.intro h72 h77)]; done) | (rw [spiI_s, if_neg (show ¬ spiP x (heaC (Sv (I 319)) x 25) (dp c) c (min 3 (dp c) - j) from fun q => h77 q.2)]; done) | (rw [spiI_s, if_neg (show ¬ spiP x (heaC (Sv (I 319)) x 25) (dp c) c (min 3 (dp c) - j) from fun q => h72 q.1)]; done)) (lI1 (by first | with_reducible rfl | (show nI (min 3 (dp c) - j - 1) = nI (min 3 (dp c) - (j + 1)); rw [Nat.sub_sub]; done) | (rw [spiI_s, if_pos (show spiP x (heaC (Sv (I 319)) x 25) (dp c) c (min 3 (dp c) - j) from And.intro h72 h77)]; done) | (rw [spiI_s, if_neg (show ¬ spiP x (heaC (Sv (I 319)) x 25) (dp c) c (min 3 (dp c) - j) from fun q => h77 q.2)]; done) | (rw [spiI_s, if_neg (show ¬ spiP x (heaC (Sv (I 319)) x 25) (dp c) c (min 3 (dp c) - j) from fun q => h72 q.1)]; done)) (lI1 (by first | with_reducible rfl | (show nI (min 3 (dp c) - j - 1) = nI (min 3 (dp c) - (j + 1)); rw [Nat.sub_sub]; done) | (rw [spiI_s, if_pos (show spiP x (heaC (Sv (I 319)) x 25) (dp c) c (min 3 (dp c) - j) from And.intro h72 h77)]; done) | (rw [spiI_s, if_neg (show ¬ spiP x (heaC (Sv (I 319)) x 25) (dp c) c (min 3 (dp c) - j) from fun q => h77 q.2)]; done) | (rw [spiI_s, if_neg (show ¬ spiP x (heaC (Sv (I 319)) x 25) (dp c) c (min 3 (dp c) - j) from fun q => h72 q.1)]; done)) (lI1 (by first | with_reducible rfl | (show nI (min 3 (dp c) - j - 1) = nI (min 3 (dp c) - (j + 1)); rw [Nat.sub_sub]; done) | (rw [spiI_s, if_pos (show spiP x (heaC (Sv (I 319)) x 25) (dp c) c (min 3 (dp c) - j) from And.intro h72 h77)]; done) | (rw [spiI_s, if_neg (show ¬ spiP x (heaC (Sv (I 319)) x 25) (dp c) c (min 3 (dp c) - j) from fun q => h77 q.2)]; done) | (rw [spiI_s, if_neg (show ¬ spiP x (heaC (Sv (I 319)) x 25) (dp c) c (min 3 (dp c) - j) from fun q => h72 q.1)]; done)) (lI1 (by first | with_reducible rfl | (show nI (min 3 (dp c) - j - 1) = nI (min 3 (dp c) - (j + 1)); rw [Nat.sub_sub]; done) | (rw [spiI_s, if_pos (show spiP x (heaC (Sv (I 319)) x 25) (dp c) c (min 3 (dp c) - j) from And.intro h72 h77)]; done) | (rw [spiI_s, if_neg (show ¬ spiP x (heaC (Sv (I 319)) x 25) (dp c) c (min 3 (dp c) - j) from fun q => h77 q.2)]; done) | (rw [spiI_s, if_neg (show ¬ spiP x (heaC (Sv (I 319)) x 25) (dp c) c (min 3 (dp c) - j) from fun q => h72 q.1)]; done)) (lC1 rfl))))))) rfl (by rfl)
            · intro h77
              refine wp_iconst (v := nI 4) (pc' := 81) rfl rfl rfl ?_
              refine wp_iload4 (pc' := 83) rfl rfl ?_
              first | refine wp_imulN (pc' := 84) rfl (by with_reducible rfl) (by with_reducible rfl) rfl ?_ | refine wp_imul (pc' := 84) rfl rfl ?_
              refine wp_iload5 (pc' := 86) rfl rfl ?_
              first | refine wp_iaddN (pc' := 87) rfl (by with_reducible rfl) (by with_reducible rfl) rfl ?_ | refine wp_iadd (pc' := 87) rfl rfl ?_
              refine wp_goto rfl ?_
              refine wp_istore3 (pc' := 92) rfl (by first | rfl | assumption) rfl ?_
              first | refine wp_iinc5 (w := (-1)) (pc' := 95) rfl rfl rfl (by with_reducible exact nI_sub1 (by omega)) rfl ?_ | refine wp_iinc5 (w := (-1)) (pc' := 95) rfl rfl rfl rfl rfl ?_
              refine wp_goto rfl ?_
              exact WP.cg (ihb (j + 1) _ (by omega) (by first | rfl | assumption)) (lC1 (lI1 (by first | with_reducible rfl | (show nI (min 3 (dp c) - j - 1) = nI (min 3 (dp c) - (j + 1)); rw [Nat.sub_sub]; done) | (rw [spiI_s, if_pos (show spiP x (heaC (Sv (I 319)) x 25) (dp c) c (min 3 (dp c) - j) from And.intro h72 h77)]; done) | (rw [spiI_s, if_neg (show ¬ spiP x (heaC (Sv (I 319)) x 25) (dp c) c (min 3 (dp c) - j) from fun q => h77 q.2)]; done) | (rw [spiI_s, if_neg (show ¬ spiP x (heaC (Sv (I 319)) x 25) (dp c) c (min 3 (dp c) - j) from fun q => h72 q.1)]; done)) (lI1 (by first | with_reducible rfl | (show nI (min 3 (dp c) - j - 1) = nI (min 3 (dp c) - (j + 1)); rw [Nat.sub_sub]; done) | (rw [spiI_s, if_pos (show spiP x (heaC (Sv (I 319)) x 25) (dp c) c (min 3 (dp c) - j) from And.intro h72 h77)]; done) | (rw [spiI_s, if_neg (show ¬ spiP x (heaC (Sv (I 319)) x 25) (dp c) c (min 3 (dp c) - j) from fun q => h77 q.2)]; done) | (rw [spiI_s, if_neg (show ¬ spiP x (heaC (Sv (I 319)) x 25) (dp c) c (min 3 (dp c) - j) from fun q => h72 q.1)]; done)) (lI1 (by first | with_reducible rfl | (show nI (min 3 (dp c) - j - 1) = nI (min 3 (dp c) - (j + 1)); rw [Nat.sub_sub]; done) | (rw [spiI_s, if_pos (show spiP x (heaC (Sv (I 319)) x 25) (dp c) c (min 3 (dp c) - j) from And.intro h72 h77)]; done) | (rw [spiI_s, if_neg (show ¬ spiP x (heaC (Sv (I 319)) x 25) (dp c) c (min 3 (dp c) - j) from fun q => h77 q.2)]; done) | (rw [spiI_s, if_neg (show ¬ spiP x (heaC (Sv (I 319)) x 25) (dp c) c (min 3 (dp c) - j) from fun q => h72 q.1)]; done)) (lI1 (by first | with_reducible rfl | (show nI (min 3 (dp c) - j - 1) = nI (min 3 (dp c) - (j + 1)); rw [Nat.sub_sub]; done) | (rw [spiI_s, if_pos (show spiP x (heaC (Sv (I 319)) x 25) (dp c) c (min 3 (dp c) - j) from And.intro h72 h77)]; done) | (rw [spiI_s, if_neg (show ¬ spiP x (heaC (Sv (I 319)) x 25) (dp c) c (min 3 (dp c) - j) from fun q => h77 q.2)]; done) | (rw [spiI_s, if_neg (show ¬ spiP x (heaC (Sv (I 319)) x 25) (dp c) c (min 3 (dp c) - j) from fun q => h72 q.1)]; done)) (lI1 (by first | with_reducible rfl | (show nI (min 3 (dp c) - j - 1) = nI (min 3 (dp c) - (j + 1)); rw [Nat.sub_sub]; done) | (rw [spiI_s, if_pos (show spiP x (heaC (Sv (I 319)) x 25) (dp c) c (min 3 (dp c) - j) from And.intro h72 h77)]; done) | (rw [spiI_s, if_neg (show ¬ spiP x (heaC (Sv (I 319)) x 25) (dp c) c (min 3 (dp c) - j) from fun q => h77 q.2)]; done) | (rw [spiI_s, if_neg (show ¬ spiP x (heaC (Sv (I 319)) x 25) (dp c) c (min 3 (dp c) - j) from fun q => h72 q.1)]; done)) (lC1 rfl))))))) rfl (by rfl)
      exact WP.cg (lp35 ((min 3 (dp c)) - (0)) (0) _ (by omega) (by first | rfl | assumption)) (lC1 (lI1 (by first | with_reducible rfl | exact nI_min (by decide) (by omega) | rfl) (lI1 (by first | with_reducible rfl | exact nI_min (by decide) (by omega) | rfl) (lI1 (by first | with_reducible rfl | exact nI_min (by decide) (by omega) | rfl) (lI1 (by first | with_reducible rfl | exact nI_min (by decide) (by omega) | rfl) (lI1 (by first | with_reducible rfl | exact nI_min (by decide) (by omega) | rfl) (lC1 rfl))))))) rfl (by rfl)
  exact WP.cg (lp17 (25 - (0)) (0) _ _ (by omega) (by first | rfl | assumption) (by first | rfl | assumption)) (lC1 (lI1 (by rfl) (lI1 (by rfl) (lI1 (by rfl) (lI1 (by rfl) (lC1 (lC1 rfl))))))) rfl (by rfl)
