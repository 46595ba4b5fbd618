/-! THE REFERENCE: how far, how wide days go -/
def farV (P : Nat → Prop) [∀ i, Decidable (P i)] : Nat → Nat → Int32
  | 0, i => if P i then nI i else -1
  | r + 1, i => if P i then nI i else farV P r (i + 1)
theorem DWk_seed {w : Nat → Int32} {o : RwT} {H : Nat} {x : Int32} (h : DWk w o H) : DWk (up1 w 8 x) o H :=
  ⟨RO_ag (up1_ne (by decide)) (fun j hj => up1_ne (by omega)) h.1, (up1_ne (by decide)).trans h.2.1, h.2.2.1, WOk_ag h.2.2.1 (fun j hj hq => up1_ne (fun e => by rcases hq with hq | ⟨c2, hc2, hq⟩ <;> omega)) h.2.2.2⟩
def spaD (w : Nat → Int32) (o : RwT) (H k j : Nat) : Int32 := sumN (fun c => (gonW false (up1 w 8 (nI (j + 1))) o H k).2 (9 + 6 * c + 0)) 25
def spaS (b : Bool) (x y : Int32) : Int32 := if x < nI 0 then y else bif b then jmax x y else jmin x y
def spaW (b : Bool) (w : Nat → Int32) (o : RwT) (H k i : Nat) : Int32 := forN (fun j x => spaS b x (spaD w o H k j)) (-1) i
theorem spaW_0 {b : Bool} {w : Nat → Int32} {o : RwT} {H k : Nat} : spaW b w o H k 0 = -1 := rfl
theorem spaW_s {b : Bool} {w : Nat → Int32} {o : RwT} {H k i : Nat} : spaW b w o H k (i + 1) = spaS b (spaW b w o H k i) (spaD w o H k i) := rfl

theorem m_far {d : Nat} {K : Nat → Nat × Nat} {I : Nat → Nat → Int32} {L : Nat → Nat → Int64} {R : Nat → Nat → Option Nat} {n s : Nat} {Q : Lo → Lm → Prop} {c e : Nat} (hT : TK K R n) (hc : c < 25) (he : e < 25) (kk : Q (.inl (some (.int (farV (fun i => hasP (pieN (jshl (nI 1) (nI c) &&& (peatS (Sv (I 319)))) (peatS (Sv (I 319))) i) e) 25 0)))) (K, up2 I 318 0 (nI 0), L, R, n, s)) : Ok (d + 4) 343 [.ref 318, .int (nI c), .int (nI e)] (K, I, L, R, n, s) Q := by
  obtain ⟨-, -, hn⟩ := id hT
  refine Ok.enter (F := F_343) (ls := [.ref 318, .int (nI c), .int (nI e), lDead, lDead, lDead]) rfl rfl ?_
  refine wp_aload0 (pc' := 1) rfl rfl ?_
  refine wp_iconst (v := nI 0) (pc' := 2) rfl rfl rfl ?_
  refine wp_putI (pc' := 5) rfl rfl (by first | exact TK.k1 hT rfl | exact TK.kk hT rfl | exact TK.r hT rfl | assumption) (by omega) rfl ?_
  obtain ⟨M, hM⟩ : ∃ M, M = up2 I 318 0 (nI 0) := ⟨_, rfl⟩
  have hM9 : M 319 = I 319 := by rw [hM]; exact up2_row (by decide)
  have hM7 : M 318 7 = I 318 7 := by rw [hM, up2_same, if_neg (by decide)]
  rw [← hM]
  refine wp_aload0 (pc' := 6) rfl rfl ?_
  refine wp_iload1 (pc' := 7) rfl rfl ?_
  refine wp_callS1 (pc' := 10) rfl rfl rfl rfl rfl rfl ?_
  refine m_noCell1 hc ?_
  refine Cont.v ?_
  refine wp_ifneF (pc' := 13) rfl rfl rfl ?_
  refine wp_iload2 (pc' := 14) rfl rfl ?_
  refine wp_callS1 (pc' := 17) rfl rfl rfl rfl rfl rfl ?_
  refine m_noCell1 he ?_
  refine Cont.v ?_
  refine wp_ifeqT rfl rfl ?_
  refine wp_iconst (v := nI 0) (pc' := 25) rfl rfl rfl ?_
  refine wp_iconst (v := nI 1) (pc' := 26) rfl rfl rfl ?_
  refine wp_callV3 (pc' := 29) rfl rfl rfl rfl rfl (by first | exact TK.k1 hT rfl | exact TK.kk hT rfl | exact TK.r hT rfl | assumption) rfl rfl ?_
  refine m_tfN hT ?_
  refine Cont.v ?_
  refine wp_ifeqT rfl rfl ?_
  refine wp_aload0 (pc' := 35) rfl rfl ?_
  refine wp_callV1 (pc' := 38) rfl rfl rfl rfl rfl (by first | exact TK.k1 hT rfl | exact TK.kk hT rfl | exact TK.r hT rfl | assumption) rfl rfl ?_
  refine m_peat hT ?_
  rw [hM9]
  refine Cont.v ?_
  refine wp_istore3 (pc' := 39) rfl (by first | rfl | assumption) rfl ?_
  refine wp_iconst (v := nI 1) (pc' := 40) rfl rfl rfl ?_
  refine wp_iload1 (pc' := 41) rfl rfl ?_
  refine wp_ishl (pc' := 42) rfl rfl ?_
  refine wp_iload3 (pc' := 43) rfl rfl ?_
  refine wp_iand (pc' := 44) rfl rfl ?_
  refine wp_istore4 (pc' := 46) rfl (by first | rfl | assumption) rfl ?_
  refine wp_iconst (v := nI 0) (pc' := 47) rfl rfl rfl ?_
  refine wp_istore5 (pc' := 49) rfl (by first | rfl | assumption) rfl ?_
  have lp49 : ∀ r (i : Nat), i + r = 25 → farV (fun i => hasP (pieN (jshl (nI 1) (nI c) &&& (peatS (Sv (I 319)))) (peatS (Sv (I 319))) i) e) (25 - i) i = farV (fun i => hasP (pieN (jshl (nI 1) (nI c) &&& (peatS (Sv (I 319)))) (peatS (Sv (I 319))) i) e) 25 0 → WP (d + 3) F_343 49 [.ref 318, .int (nI c), .int (nI e), .int (peatS (Sv (I 319))), .int (pieN (jshl (nI 1) (nI c) &&& (peatS (Sv (I 319)))) (peatS (Sv (I 319))) i), .int (nI i)] [] (K, M, L, R, n, s) Q := by
    intro r; induction r with
    | zero =>
      intro i hi hv0
      have hi2 : i = 25 := by omega
      subst hi2
      refine wp_iload5 (pc' := 51) rfl rfl ?_
      refine wp_bipush (v := nI 25) (pc' := 53) rfl rfl rfl ?_
      refine wp_icmpgeT rfl (nI_nlt (by omega) (by omega)) ?_
      refine wp_iload4 (pc' := 81) rfl rfl ?_
      refine wp_iload2 (pc' := 82) rfl rfl ?_
      refine wp_callS2 (pc' := 85) rfl rfl rfl rfl rfl rfl ?_
      refine m_has ?_
      refine Cont.v ?_
      first | refine wp_ifeqB (pc' := 88) rfl rfl ?_ ?_ | refine wp_ifeq (pc' := 88) rfl rfl ?_ ?_
      · intro h85
        refine wp_iconst (v := (-1)) (pc' := 94) rfl rfl rfl ?_
        refine wp_iret rfl rfl rfl ?_
        rw [hM]
        first | exact absurd h62 h85 | exact Qv kk (by rw [← hv0, show 25 - i = (25 - (i + 1)) + 1 by omega, farV, if_pos h62]) rfl | exact Qv kk (by rw [← hv0]; exact (if_pos h85).symm) rfl | exact Qv kk (by rw [← hv0]; exact (if_neg h85).symm) rfl
      · intro h85
        refine wp_iload5 (pc' := 90) rfl rfl ?_
        refine wp_goto rfl ?_
        refine wp_iret rfl rfl rfl ?_
        rw [hM]
        first | exact absurd h62 h85 | exact Qv kk (by rw [← hv0, show 25 - i = (25 - (i + 1)) + 1 by omega, farV, if_pos h62]) rfl | exact Qv kk (by rw [← hv0]; exact (if_pos h85).symm) rfl | exact Qv kk (by rw [← hv0]; exact (if_neg h85).symm) rfl
    | succ r ih =>
      intro i hi hv0
      have hlt : i < 25 := by omega
      refine wp_iload5 (pc' := 51) rfl rfl ?_
      refine wp_bipush (v := nI 25) (pc' := 53) rfl rfl rfl ?_
      refine wp_icmpgeF (pc' := 56) rfl (nI_lt (by omega) (by omega)) rfl ?_
      refine wp_iload4 (pc' := 58) rfl rfl ?_
      refine wp_iload2 (pc' := 59) rfl rfl ?_
      refine wp_callS2 (pc' := 62) rfl rfl rfl rfl rfl rfl ?_
      refine m_has ?_
      refine Cont.v ?_
      first | refine wp_ifneB (pc' := 65) rfl rfl ?_ ?_ | refine wp_ifne (pc' := 65) rfl rfl ?_ ?_
      · intro h62
        refine wp_iload4 (pc' := 81) rfl rfl ?_
        refine wp_iload2 (pc' := 82) rfl rfl ?_
        refine wp_callS2 (pc' := 85) rfl rfl rfl rfl rfl rfl ?_
        refine m_has ?_
        refine Cont.v ?_
        first | refine wp_ifeqB (pc' := 88) rfl rfl ?_ ?_ | refine wp_ifeq (pc' := 88) rfl rfl ?_ ?_
        · intro h85
          refine wp_iconst (v := (-1)) (pc' := 94) rfl rfl rfl ?_
          refine wp_iret rfl rfl rfl ?_
          rw [hM]
          first | exact absurd h62 h85 | exact Qv kk (by rw [← hv0, show 25 - i = (25 - (i + 1)) + 1 by omega, farV, if_pos h62]) rfl | exact Qv kk (by rw [← hv0]; exact (if_pos h85).symm) rfl | exact Qv kk (by rw [← hv0]; exact (if_neg h85).symm) rfl
        · intro h85
          refine wp_iload5 (pc' := 90) rfl rfl ?_
          refine wp_goto rfl ?_
          refine wp_iret rfl rfl rfl ?_
          rw [hM]
          first | exact absurd h62 h85 | exact Qv kk (by rw [← hv0, show 25 - i = (25 - (i + 1)) + 1 by omega, farV, if_pos h62]) rfl | exact Qv kk (by rw [← hv0]; exact (if_pos h85).symm) rfl | exact Qv kk (by rw [← hv0]; exact (if_neg h85).symm) rfl
      · intro h62
        refine wp_iload4 (pc' := 67) rfl rfl ?_
        refine wp_iload3 (pc' := 68) rfl rfl ?_
        refine wp_callS2 (pc' := 71) rfl rfl rfl rfl rfl rfl ?_
        refine m_wider ?_
        refine Cont.v ?_
        refine wp_istore4 (pc' := 73) rfl (by first | rfl | assumption) rfl ?_
        first | refine wp_iinc5 (w := nI 1) (pc' := 76) rfl rfl rfl (by with_reducible exact nI_add _ _) rfl ?_ | refine wp_iinc5 (w := nI 1) (pc' := 76) rfl rfl rfl rfl rfl ?_
        refine wp_goto rfl ?_
        exact WP.cg (ih (i + 1) (by omega) (by rw [show 25 - i = (25 - (i + 1)) + 1 by omega, farV, if_neg h62] at hv0; exact hv0)) (lC1 (lI1 (by rfl) (lI1 (by rfl) (lI1 (by rfl) (lI1 (by rfl) (lI1 (by rfl) rfl)))))) rfl (by rfl)
  exact WP.cg (lp49 (25 - (0)) (0) (by omega) rfl) (lC1 (lI1 (by rfl) (lI1 (by rfl) (lI1 (by rfl) (lI1 (by rfl) (lI1 (by rfl) rfl)))))) rfl (by rfl)
theorem m_farE1 {d : Nat} {K : Nat → Nat × Nat} {I : Nat → Nat → Int32} {L : Nat → Nat → Int64} {R : Nat → Nat → Option Nat} {n s : Nat} {Q : Lo → Lm → Prop} {x y : Int32} (hT : TK K R n) (hx : ¬ InR x 25) (kk : Q (.inl (some (.int (nI 0)))) (K, up2 I 318 0 (nI 1), L, R, n, s)) : Ok (d + 4) 343 [.ref 318, .int x, .int y] (K, I, L, R, n, s) Q := by
  obtain ⟨-, -, hn⟩ := id hT
  refine Ok.enter (F := F_343) (ls := [.ref 318, .int x, .int y, lDead, lDead, lDead]) rfl rfl ?_
  refine wp_aload0 (pc' := 1) rfl rfl ?_
  refine wp_iconst (v := nI 0) (pc' := 2) rfl rfl rfl ?_
  refine wp_putI (pc' := 5) rfl rfl (by first | exact TK.k1 hT rfl | exact TK.kk hT rfl | exact TK.r hT rfl | assumption) (by omega) rfl ?_
  refine wp_aload0 (pc' := 6) rfl rfl ?_
  refine wp_iload1 (pc' := 7) rfl rfl ?_
  refine wp_callS1 (pc' := 10) rfl rfl rfl rfl rfl rfl ?_
  refine m_noCell0 hx ?_
  refine Cont.v ?_
  refine wp_ifneT rfl (by decide) ?_
  refine wp_iconst (v := nI 1) (pc' := 21) rfl rfl rfl ?_
  refine wp_goto rfl ?_
  refine wp_iconst (v := nI 1) (pc' := 26) rfl rfl rfl ?_
  refine wp_callV3 (pc' := 29) rfl rfl rfl rfl rfl (by first | exact TK.k1 hT rfl | exact TK.kk hT rfl | exact TK.r hT rfl | assumption) rfl rfl ?_
  refine m_tfY hT ?_
  refine Cont.v ?_
  refine wp_ifeqF (pc' := 32) rfl (by decide) rfl ?_
  refine wp_iconst (v := nI 0) (pc' := 33) rfl rfl rfl ?_
  refine wp_iret rfl rfl rfl ?_
  rw [up318]
  exact kk
theorem m_farE2 {d : Nat} {K : Nat → Nat × Nat} {I : Nat → Nat → Int32} {L : Nat → Nat → Int64} {R : Nat → Nat → Option Nat} {n s : Nat} {Q : Lo → Lm → Prop} {c : Nat} {x : Int32} (hT : TK K R n) (hc : c < 25) (hx : ¬ InR x 25) (kk : Q (.inl (some (.int (nI 0)))) (K, up2 I 318 0 (nI 1), L, R, n, s)) : Ok (d + 4) 343 [.ref 318, .int (nI c), .int x] (K, I, L, R, n, s) Q := by
  obtain ⟨-, -, hn⟩ := id hT
  refine Ok.enter (F := F_343) (ls := [.ref 318, .int (nI c), .int x, lDead, lDead, lDead]) rfl rfl ?_
  refine wp_aload0 (pc' := 1) rfl rfl ?_
  refine wp_iconst (v := nI 0) (pc' := 2) rfl rfl rfl ?_
  refine wp_putI (pc' := 5) rfl rfl (by first | exact TK.k1 hT rfl | exact TK.kk hT rfl | exact TK.r hT rfl | assumption) (by omega) rfl ?_
  refine wp_aload0 (pc' := 6) rfl rfl ?_
  refine wp_iload1 (pc' := 7) rfl rfl ?_
  refine wp_callS1 (pc' := 10) rfl rfl rfl rfl rfl rfl ?_
  refine m_noCell1 hc ?_
  refine Cont.v ?_
  refine wp_ifneF (pc' := 13) rfl rfl rfl ?_
  refine wp_iload2 (pc' := 14) rfl rfl ?_
  refine wp_callS1 (pc' := 17) rfl rfl rfl rfl rfl rfl ?_
  refine m_noCell0 hx ?_
  refine Cont.v ?_
  refine wp_ifeqF (pc' := 20) rfl (by decide) rfl ?_
  refine wp_iconst (v := nI 1) (pc' := 21) rfl rfl rfl ?_
  refine wp_goto rfl ?_
  refine wp_iconst (v := nI 1) (pc' := 26) rfl rfl rfl ?_
  refine wp_callV3 (pc' := 29) rfl rfl rfl rfl rfl (by first | exact TK.k1 hT rfl | exact TK.kk hT rfl | exact TK.r hT rfl | assumption) rfl rfl ?_
  refine m_tfY hT ?_
  refine Cont.v ?_
  refine wp_ifeqF (pc' := 32) rfl (by decide) rfl ?_
  refine wp_iconst (v := nI 0) (pc' := 33) rfl rfl rfl ?_
  refine wp_iret rfl rfl rfl ?_
  rw [up318]
  exact kk
theorem m_span1 {d : Nat} {K : Nat → Nat × Nat} {I : Nat → Nat → Int32} {L : Nat → Nat → Int64} {R : Nat → Nat → Option Nat} {n s : Nat} {Q : Lo → Lm → Prop} {k : Nat} (hT : TK K R n) {o : RwT} {H : Nat} (hdw : DWk (I 319) o H) (hk60 : k ≤ 60) (kk : ∀ J, AskJ I J → Q (.inl (some (.int (spaW true (I 319) o H k 6)))) (K, J, L, R, n, s)) : Ok (d + 12) 363 [.ref 318, .int (nI k), .int (nI 1)] (K, I, L, R, n, s) Q := by
  obtain ⟨-, -, hn⟩ := id hT
  refine Ok.enter (F := F_363) (ls := [.ref 318, .int (nI k), .int (nI 1), lDead, lDead, lDead]) rfl rfl ?_
  refine wp_aload0 (pc' := 1) rfl rfl ?_
  refine wp_iconst (v := nI 0) (pc' := 2) rfl rfl rfl ?_
  refine wp_putI (pc' := 5) rfl rfl (by first | exact TK.k1 hT rfl | exact TK.kk hT rfl | exact TK.r hT rfl | assumption) (by omega) rfl ?_
  obtain ⟨M, hM⟩ : ∃ M, M = up2 I 318 0 (nI 0) := ⟨_, rfl⟩
  have hM9 : M 319 = I 319 := by rw [hM]; exact up2_row (by decide)
  have hM7 : M 318 7 = I 318 7 := by rw [hM, up2_same, if_neg (by decide)]
  rw [← hM]
  refine wp_aload0 (pc' := 6) rfl rfl ?_
  refine wp_iload1 (pc' := 7) rfl rfl ?_
  refine wp_callS1 (pc' := 10) rfl rfl rfl rfl rfl rfl ?_
  refine m_noDays1 hk60 ?_
  refine Cont.v ?_
  refine wp_iconst (v := nI 1) (pc' := 11) rfl rfl rfl ?_
  refine wp_callV3 (pc' := 14) rfl rfl rfl rfl rfl (by first | exact TK.k1 hT rfl | exact TK.kk hT rfl | exact TK.r hT rfl | assumption) rfl rfl ?_
  refine m_tfN hT ?_
  refine Cont.v ?_
  refine wp_ifeqT rfl rfl ?_
  refine wp_aload0 (pc' := 20) rfl rfl ?_
  refine wp_callV1 (pc' := 23) rfl rfl rfl rfl rfl (by first | exact TK.k1 hT rfl | exact TK.kk hT rfl | exact TK.r hT rfl | assumption) rfl rfl ?_
  refine m_keepsAll hT ?_
  rw [hM9]
  obtain ⟨N, hN⟩ : ∃ N, N = upr M 322 (cpy 483 (I 319) (M 322)) := ⟨_, rfl⟩
  have hN9 : N 319 = I 319 := by rw [hN, upr_ne (by decide)]; exact hM9
  have hN2 : N 322 = cpy 483 (I 319) (M 322) := by rw [hN, upr_same]
  rw [← hN]
  refine Cont.u ?_
  refine wp_iconst (v := (-1)) (pc' := 24) rfl rfl rfl ?_
  refine wp_istore3 (pc' := 25) rfl (by first | rfl | assumption) rfl ?_
  refine wp_iconst (v := nI 1) (pc' := 26) rfl rfl rfl ?_
  refine wp_istore4 (pc' := 28) rfl (by first | rfl | assumption) rfl ?_
  have lp28 : ∀ r (i : Nat) (J : Mem) (v5 : Value), i + r = 6 → KpS N J → J 319 = I 319 → isL v5 = false → WP (d + 11) F_363 28 [.ref 318, .int (nI k), .int (nI 1), .int (spaW true (I 319) o H k i), .int (nI (i + 1)), v5] [] (K, J, L, R, n, s) Q := by
    intro r; induction r with
    | zero =>
      intro i J v5 hi hv0 hv1 hv2
      have hi2 : i = 6 := by omega
      subst hi2
      refine wp_iload4 (pc' := 30) rfl rfl ?_
      refine wp_bipush (v := nI 6) (pc' := 32) rfl rfl rfl ?_
      refine wp_icmpgtT rfl (nI_lt (by omega) (by omega)) ?_
      refine wp_iload3 (pc' := 98) rfl rfl ?_
      refine wp_iret rfl rfl rfl ?_
      rw [hN, hM] at hv0
      exact kk _ (ask_mk hv0 hv1)
    | succ r ih =>
      intro i J v5 hi hv0 hv1 hv2
      have hlt : i < 6 := by omega
      refine wp_iload4 (pc' := 30) rfl rfl ?_
      refine wp_bipush (v := nI 6) (pc' := 32) rfl rfl rfl ?_
      refine wp_icmpgtF (pc' := 35) rfl (nI_nlt (by omega) (by omega)) rfl ?_
      refine wp_aload0 (pc' := 36) rfl rfl ?_
      refine wp_getRF (pc' := 39) rfl rfl (by first | exact TK.k1 hT rfl | exact TK.kk hT rfl | exact TK.r hT rfl | assumption) (by first | exact TK.k1 hT rfl | exact TK.kk hT rfl | exact TK.r hT rfl | assumption) rfl ?_
      refine wp_bipush (v := nI 8) (pc' := 41) rfl rfl rfl ?_
      refine wp_iload4 (pc' := 43) rfl rfl ?_
      refine wp_iast _ (pc' := 44) rfl (by first | exact TK.k1 hT rfl | exact TK.kk hT rfl | exact TK.r hT rfl | assumption) (by omega) (by with_reducible rfl) (by omega) (by first | decide | assumption | omega) rfl ?_
      rw [up2_as, hv1]
      refine wp_aload0 (pc' := 45) rfl rfl ?_
      refine wp_iload1 (pc' := 46) rfl rfl ?_
      refine wp_iconst (v := nI 0) (pc' := 47) rfl rfl rfl ?_
      refine wp_callV3 (pc' := 50) rfl rfl rfl rfl rfl (by first | exact TK.k1 hT rfl | exact TK.kk hT rfl | exact TK.r hT rfl | assumption) rfl rfl ?_
      refine m_goesOn0 (o := o) (H := H) hT (by rw [upr_same]; exact DWk_seed hdw) hk60 (fun X hX hX9 => ?_)
      rw [upr_same] at hX9 ⊢
      refine Cont.v ?_
      refine wp_pop (pc' := 51) rfl rfl rfl ?_
      refine wp_aload0 (pc' := 52) rfl rfl ?_
      refine wp_iconst (v := nI 0) (pc' := 53) rfl rfl rfl ?_
      refine wp_callV2 (pc' := 56) rfl rfl rfl rfl rfl (by first | exact TK.k1 hT rfl | exact TK.kk hT rfl | exact TK.r hT rfl | assumption) rfl rfl ?_
      refine m_sumOfAll hT (by decide) ?_
      rw [hX9]
      refine Cont.v ?_
      refine wp_istore5 (pc' := 58) rfl (by first | rfl | assumption) rfl ?_
      refine wp_aload0 (pc' := 59) rfl rfl ?_
      refine wp_callV1 (pc' := 62) rfl rfl rfl rfl rfl (by first | exact TK.k1 hT rfl | exact TK.kk hT rfl | exact TK.r hT rfl | assumption) rfl rfl ?_
      refine m_bringsBack hT ?_
      rw [hX9, hX 322 (by omega), upr_ne (show (322 : Nat) ≠ 319 by decide), hv0 322 (by omega), hN2, cpy_back (fun j hj => (gon_hi (DWk_seed hdw) _ j hj).trans (up1_ne (by omega)))]
      refine Cont.u ?_
      refine wp_iload3 (pc' := 63) rfl rfl ?_
      refine wp_ifge (pc' := 66) rfl rfl ?_ ?_
      · intro h63
        refine wp_iload2 (pc' := 72) rfl rfl ?_
        refine wp_ifeqF (pc' := 75) rfl (by decide) rfl ?_
        refine wp_iload3 (pc' := 76) rfl rfl ?_
        refine wp_iload5 (pc' := 78) rfl rfl ?_
        refine wp_max (pc' := 81) rfl rfl rfl rfl ?_
        refine wp_goto rfl ?_
        refine wp_istore3 (pc' := 91) rfl (by first | rfl | assumption) rfl ?_
        first | refine wp_iinc4 (w := nI 1) (pc' := 94) rfl rfl rfl (by with_reducible exact nI_add _ _) rfl ?_ | refine wp_iinc4 (w := nI 1) (pc' := 94) rfl rfl rfl rfl rfl ?_
        refine wp_goto rfl ?_
        exact WP.cg (ih (i + 1) _ _ (by omega) (((hv0.upr (b := 319) (by omega)).tr hX).upr (b := 319) (by omega)) upr_same (by first | rfl | assumption)) (lC1 (lI1 (by first | with_reducible rfl | (rw [spaW_s]; unfold spaS; first | exact (if_pos h63).symm | exact (if_neg h63).symm)) (lI1 (by first | with_reducible rfl | (rw [spaW_s]; unfold spaS; first | exact (if_pos h63).symm | exact (if_neg h63).symm)) (lI1 (by first | with_reducible rfl | (rw [spaW_s]; unfold spaS; first | exact (if_pos h63).symm | exact (if_neg h63).symm)) (lI1 (by first | with_reducible rfl | (rw [spaW_s]; unfold spaS; first | exact (if_pos h63).symm | exact (if_neg h63).symm)) (lC1 rfl)))))) rfl (by rfl)
      · intro h63
        refine wp_iload5 (pc' := 68) rfl rfl ?_
        refine wp_goto rfl ?_
        refine wp_istore3 (pc' := 91) rfl (by first | rfl | assumption) rfl ?_
        first | refine wp_iinc4 (w := nI 1) (pc' := 94) rfl rfl rfl (by with_reducible exact nI_add _ _) rfl ?_ | refine wp_iinc4 (w := nI 1) (pc' := 94) rfl rfl rfl rfl rfl ?_
        refine wp_goto rfl ?_
        exact WP.cg (ih (i + 1) _ _ (by omega) (((hv0.upr (b := 319) (by omega)).tr hX).upr (b := 319) (by omega)) upr_same (by first | rfl | assumption)) (lC1 (lI1 (by first | with_reducible rfl | (rw [spaW_s]; unfold spaS; first | exact (if_pos h63).symm | exact (if_neg h63).symm)) (lI1 (by first | with_reducible rfl | (rw [spaW_s]; unfold spaS; first | exact (if_pos h63).symm | exact (if_neg h63).symm)) (lI1 (by first | with_reducible rfl | (rw [spaW_s]; unfold spaS; first | exact (if_pos h63).symm | exact (if_neg h63).symm)) (lI1 (by first | with_reducible rfl | (rw [spaW_s]; unfold spaS; first | exact (if_pos h63).symm | exact (if_neg h63).symm)) (lC1 rfl)))))) rfl (by rfl)
  exact WP.cg (lp28 (6 - (0)) (0) N _ (by omega) KpS.rfl' hN9 (by first | rfl | assumption)) (lC1 (lI1 (by first | with_reducible rfl | rw [spaW_0]) (lI1 (by first | with_reducible rfl | rw [spaW_0]) (lI1 (by first | with_reducible rfl | rw [spaW_0]) (lI1 (by first | with_reducible rfl | rw [spaW_0]) (lC1 rfl)))))) rfl (by rfl)
theorem m_span0 {d : Nat} {K : Nat → Nat × Nat} {I : Nat → Nat → Int32} {L : Nat → Nat → Int64} {R : Nat → Nat → Option Nat} {n s : Nat} {Q : Lo → Lm → Prop} {k : Nat} (hT : TK K R n) {o : RwT} {H : Nat} (hdw : DWk (I 319) o H) (hk60 : k ≤ 60) (kk : ∀ J, AskJ I J → Q (.inl (some (.int (spaW false (I 319) o H k 6)))) (K, J, L, R, n, s)) : Ok (d + 12) 363 [.ref 318, .int (nI k), .int (nI 0)] (K, I, L, R, n, s) Q := by
  obtain ⟨-, -, hn⟩ := id hT
  refine Ok.enter (F := F_363) (ls := [.ref 318, .int (nI k), .int (nI 0), lDead, lDead, lDead]) rfl rfl ?_
  refine wp_aload0 (pc' := 1) rfl rfl ?_
  refine wp_iconst (v := nI 0) (pc' := 2) rfl rfl rfl ?_
  refine wp_putI (pc' := 5) rfl rfl (by first | exact TK.k1 hT rfl | exact TK.kk hT rfl | exact TK.r hT rfl | assumption) (by omega) rfl ?_
  obtain ⟨M, hM⟩ : ∃ M, M = up2 I 318 0 (nI 0) := ⟨_, rfl⟩
  have hM9 : M 319 = I 319 := by rw [hM]; exact up2_row (by decide)
  have hM7 : M 318 7 = I 318 7 := by rw [hM, up2_same, if_neg (by decide)]
  rw [← hM]
  refine wp_aload0 (pc' := 6) rfl rfl ?_
  refine wp_iload1 (pc' := 7) rfl rfl ?_
  refine wp_callS1 (pc' := 10) rfl rfl rfl rfl rfl rfl ?_
  refine m_noDays1 hk60 ?_
  refine Cont.v ?_
  refine wp_iconst (v := nI 1) (pc' := 11) rfl rfl rfl ?_
  refine wp_callV3 (pc' := 14) rfl rfl rfl rfl rfl (by first | exact TK.k1 hT rfl | exact TK.kk hT rfl | exact TK.r hT rfl | assumption) rfl rfl ?_
  refine m_tfN hT ?_
  refine Cont.v ?_
  refine wp_ifeqT rfl rfl ?_
  refine wp_aload0 (pc' := 20) rfl rfl ?_
  refine wp_callV1 (pc' := 23) rfl rfl rfl rfl rfl (by first | exact TK.k1 hT rfl | exact TK.kk hT rfl | exact TK.r hT rfl | assumption) rfl rfl ?_
  refine m_keepsAll hT ?_
  rw [hM9]
  obtain ⟨N, hN⟩ : ∃ N, N = upr M 322 (cpy 483 (I 319) (M 322)) := ⟨_, rfl⟩
  have hN9 : N 319 = I 319 := by rw [hN, upr_ne (by decide)]; exact hM9
  have hN2 : N 322 = cpy 483 (I 319) (M 322) := by rw [hN, upr_same]
  rw [← hN]
  refine Cont.u ?_
  refine wp_iconst (v := (-1)) (pc' := 24) rfl rfl rfl ?_
  refine wp_istore3 (pc' := 25) rfl (by first | rfl | assumption) rfl ?_
  refine wp_iconst (v := nI 1) (pc' := 26) rfl rfl rfl ?_
  refine wp_istore4 (pc' := 28) rfl (by first | rfl | assumption) rfl ?_
  have lp28 : ∀ r (i : Nat) (J : Mem) (v5 : Value), i + r = 6 → KpS N J → J 319 = I 319 → isL v5 = false → WP (d + 11) F_363 28 [.ref 318, .int (nI k), .int (nI 0), .int (spaW false (I 319) o H k i), .int (nI (i + 1)), v5] [] (K, J, L, R, n, s) Q := by
    intro r; induction r with
    | zero =>
      intro i J v5 hi hv0 hv1 hv2
      have hi2 : i = 6 := by omega
      subst hi2
      refine wp_iload4 (pc' := 30) rfl rfl ?_
      refine wp_bipush (v := nI 6) (pc' := 32) rfl rfl rfl ?_
      refine wp_icmpgtT rfl (nI_lt (by omega) (by omega)) ?_
      refine wp_iload3 (pc' := 98) rfl rfl ?_
      refine wp_iret rfl rfl rfl ?_
      rw [hN, hM] at hv0
      exact kk _ (ask_mk hv0 hv1)
    | succ r ih =>
      intro i J v5 hi hv0 hv1 hv2
      have hlt : i < 6 := by omega
      refine wp_iload4 (pc' := 30) rfl rfl ?_
      refine wp_bipush (v := nI 6) (pc' := 32) rfl rfl rfl ?_
      refine wp_icmpgtF (pc' := 35) rfl (nI_nlt (by omega) (by omega)) rfl ?_
      refine wp_aload0 (pc' := 36) rfl rfl ?_
      refine wp_getRF (pc' := 39) rfl rfl (by first | exact TK.k1 hT rfl | exact TK.kk hT rfl | exact TK.r hT rfl | assumption) (by first | exact TK.k1 hT rfl | exact TK.kk hT rfl | exact TK.r hT rfl | assumption) rfl ?_
      refine wp_bipush (v := nI 8) (pc' := 41) rfl rfl rfl ?_
      refine wp_iload4 (pc' := 43) rfl rfl ?_
      refine wp_iast _ (pc' := 44) rfl (by first | exact TK.k1 hT rfl | exact TK.kk hT rfl | exact TK.r hT rfl | assumption) (by omega) (by with_reducible rfl) (by omega) (by first | decide | assumption | omega) rfl ?_
      rw [up2_as, hv1]
      refine wp_aload0 (pc' := 45) rfl rfl ?_
      refine wp_iload1 (pc' := 46) rfl rfl ?_
      refine wp_iconst (v := nI 0) (pc' := 47) rfl rfl rfl ?_
      refine wp_callV3 (pc' := 50) rfl rfl rfl rfl rfl (by first | exact TK.k1 hT rfl | exact TK.kk hT rfl | exact TK.r hT rfl | assumption) rfl rfl ?_
      refine m_goesOn0 (o := o) (H := H) hT (by rw [upr_same]; exact DWk_seed hdw) hk60 (fun X hX hX9 => ?_)
      rw [upr_same] at hX9 ⊢
      refine Cont.v ?_
      refine wp_pop (pc' := 51) rfl rfl rfl ?_
      refine wp_aload0 (pc' := 52) rfl rfl ?_
      refine wp_iconst (v := nI 0) (pc' := 53) rfl rfl rfl ?_
      refine wp_callV2 (pc' := 56) rfl rfl rfl rfl rfl (by first | exact TK.k1 hT rfl | exact TK.kk hT rfl | exact TK.r hT rfl | assumption) rfl rfl ?_
      refine m_sumOfAll hT (by decide) ?_
      rw [hX9]
      refine Cont.v ?_
      refine wp_istore5 (pc' := 58) rfl (by first | rfl | assumption) rfl ?_
      refine wp_aload0 (pc' := 59) rfl rfl ?_
      refine wp_callV1 (pc' := 62) rfl rfl rfl rfl rfl (by first | exact TK.k1 hT rfl | exact TK.kk hT rfl | exact TK.r hT rfl | assumption) rfl rfl ?_
      refine m_bringsBack hT ?_
      rw [hX9, hX 322 (by omega), upr_ne (show (322 : Nat) ≠ 319 by decide), hv0 322 (by omega), hN2, cpy_back (fun j hj => (gon_hi (DWk_seed hdw) _ j hj).trans (up1_ne (by omega)))]
      refine Cont.u ?_
      refine wp_iload3 (pc' := 63) rfl rfl ?_
      refine wp_ifge (pc' := 66) rfl rfl ?_ ?_
      · intro h63
        refine wp_iload2 (pc' := 72) rfl rfl ?_
        refine wp_ifeqT rfl rfl ?_
        refine wp_iload3 (pc' := 85) rfl rfl ?_
        refine wp_iload5 (pc' := 87) rfl rfl ?_
        refine wp_min (pc' := 90) rfl rfl rfl rfl ?_
        refine wp_istore3 (pc' := 91) rfl (by first | rfl | assumption) rfl ?_
        first | refine wp_iinc4 (w := nI 1) (pc' := 94) rfl rfl rfl (by with_reducible exact nI_add _ _) rfl ?_ | refine wp_iinc4 (w := nI 1) (pc' := 94) rfl rfl rfl rfl rfl ?_
        refine wp_goto rfl ?_
        exact WP.cg (ih (i + 1) _ _ (by omega) (((hv0.upr (b := 319) (by omega)).tr hX).upr (b := 319) (by omega)) upr_same (by first | rfl | assumption)) (lC1 (lI1 (by first | with_reducible rfl | (rw [spaW_s]; unfold spaS; first | exact (if_pos h63).symm | exact (if_neg h63).symm)) (lI1 (by first | with_reducible rfl | (rw [spaW_s]; unfold spaS; first | exact (if_pos h63).symm | exact (if_neg h63).symm)) (lI1 (by first | with_reducible rfl | (rw [spaW_s]; unfold spaS; first | exact (if_pos h63).symm | exact (if_neg h63).symm)) (lI1 (by first | with_reducible rfl | (rw [spaW_s]; unfold spaS; first | exact (if_pos h63).symm | exact (if_neg h63).symm)) (lC1 rfl)))))) rfl (by rfl)
      · intro h63
        refine wp_iload5 (pc' := 68) rfl rfl ?_
        refine wp_goto rfl ?_
        refine wp_istore3 (pc' := 91) rfl (by first | rfl | assumption) rfl ?_
        first | refine wp_iinc4 (w := nI 1) (pc' := 94) rfl rfl rfl (by with_reducible exact nI_add _ _) rfl ?_ | refine wp_iinc4 (w := nI 1) (pc' := 94) rfl rfl rfl rfl rfl ?_
        refine wp_goto rfl ?_
        exact WP.cg (ih (i + 1) _ _ (by omega) (((hv0.upr (b := 319) (by omega)).tr hX).upr (b := 319) (by omega)) upr_same (by first | rfl | assumption)) (lC1 (lI1 (by first | with_reducible rfl | (rw [spaW_s]; unfold spaS; first | exact (if_pos h63).symm | exact (if_neg h63).symm)) (lI1 (by first | with_reducible rfl | (rw [spaW_s]; unfold spaS; first | exact (if_pos h63).symm | exact (if_neg h63).symm)) (lI1 (by first | with_reducible rfl | (rw [spaW_s]; unfold spaS; first | exact (if_pos h63).symm | exact (if_neg h63).symm)) (lI1 (by first | with_reducible rfl | (rw [spaW_s]; unfold spaS; first | exact (if_pos h63).symm | exact (if_neg h63).symm)) (lC1 rfl)))))) rfl (by rfl)
  exact WP.cg (lp28 (6 - (0)) (0) N _ (by omega) KpS.rfl' hN9 (by first | rfl | assumption)) (lC1 (lI1 (by first | with_reducible rfl | rw [spaW_0]) (lI1 (by first | with_reducible rfl | rw [spaW_0]) (lI1 (by first | with_reducible rfl | rw [spaW_0]) (lI1 (by first | with_reducible rfl | rw [spaW_0]) (lC1 rfl)))))) rfl (by rfl)
theorem m_spanE {d : Nat} {K : Nat → Nat × Nat} {I : Nat → Nat → Int32} {L : Nat → Nat → Int64} {R : Nat → Nat → Option Nat} {n s : Nat} {Q : Lo → Lm → Prop} {x y : Int32} (hT : TK K R n) (hx : ¬ InR x 61) (kk : Q (.inl (some (.int (nI 0)))) (K, up2 I 318 0 (nI 1), L, R, n, s)) : Ok (d + 12) 363 [.ref 318, .int x, .int y] (K, I, L, R, n, s) Q := by
  obtain ⟨-, -, hn⟩ := id hT
  refine Ok.enter (F := F_363) (ls := [.ref 318, .int x, .int y, lDead, lDead, lDead]) rfl rfl ?_
  refine wp_aload0 (pc' := 1) rfl rfl ?_
  refine wp_iconst (v := nI 0) (pc' := 2) rfl rfl rfl ?_
  refine wp_putI (pc' := 5) rfl rfl (by first | exact TK.k1 hT rfl | exact TK.kk hT rfl | exact TK.r hT rfl | assumption) (by omega) rfl ?_
  refine wp_aload0 (pc' := 6) rfl rfl ?_
  refine wp_iload1 (pc' := 7) rfl rfl ?_
  refine wp_callS1 (pc' := 10) rfl rfl rfl rfl rfl rfl ?_
  refine m_noDays0 hx ?_
  refine Cont.v ?_
  refine wp_iconst (v := nI 1) (pc' := 11) rfl rfl rfl ?_
  refine wp_callV3 (pc' := 14) rfl rfl rfl rfl rfl (by first | exact TK.k1 hT rfl | exact TK.kk hT rfl | exact TK.r hT rfl | assumption) rfl rfl ?_
  refine m_tfY hT ?_
  refine Cont.v ?_
  refine wp_ifeqF (pc' := 17) rfl (by decide) rfl ?_
  refine wp_iconst (v := nI 0) (pc' := 18) rfl rfl rfl ?_
  refine wp_iret rfl rfl rfl ?_
  rw [up318]
  exact kk
