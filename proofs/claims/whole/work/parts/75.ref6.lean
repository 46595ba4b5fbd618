/-! THE REFERENCE: days one after the other -/
def gonS (cal : Bool) (o : RwT) (H : Nat) (p : Int32 × (Nat → Int32)) : Int32 × (Nat → Int32) := (p.1 + (dayW (bif cal then p.2 else skyW p.2) o H).1, (dayW (bif cal then p.2 else skyW p.2) o H).2)
def gonW (cal : Bool) (w : Nat → Int32) (o : RwT) (H i : Nat) : Int32 × (Nat → Int32) := forN (fun _ p => gonS cal o H p) (nI 0, w) i
theorem gonW_0 {cal : Bool} {w : Nat → Int32} {o : RwT} {H : Nat} : gonW cal w o H 0 = (nI 0, w) := rfl
theorem gonW_s {cal : Bool} {w : Nat → Int32} {o : RwT} {H i : Nat} : gonW cal w o H (i + 1) = gonS cal o H (gonW cal w o H i) := rfl
theorem DWk_gon {cal : Bool} {w : Nat → Int32} {o : RwT} {H : Nat} (h : DWk w o H) : ∀ i, DWk (gonW cal w o H i).2 o H
  | 0 => h
  | i + 1 => by
    rw [gonW_s]
    unfold gonS
    cases cal
    · exact DWk_day (DWk_sky (DWk_gon h i))
    · exact DWk_day (DWk_gon h i)

theorem m_goesOn1 {d : Nat} {K : Nat → Nat × Nat} {I : Nat → Nat → Int32} {L : Nat → Nat → Int64} {R : Nat → Nat → Option Nat} {n s : Nat} {Q : Lo → Lm → Prop} {o : RwT} {H k : Nat} (hT : TK K R n) (hdw : DWk (I 319) o H) (hk60 : k ≤ 60) (kk : ∀ J, KpS I J → J 319 = (gonW true (I 319) o H k).2 → Q (.inl (some (.int ((gonW true (I 319) o H k).1)))) (K, J, L, R, n, s)) : Ok (d + 11) 292 [.ref 318, .int (nI k), .int (nI 1)] (K, I, L, R, n, s) Q := by
  obtain ⟨-, -, hn⟩ := id hT
  refine Ok.enter (F := F_292) (ls := [.ref 318, .int (nI k), .int (nI 1), lDead, lDead]) rfl rfl ?_
  refine wp_iconst (v := nI 0) (pc' := 1) rfl rfl rfl ?_
  refine wp_istore3 (pc' := 2) rfl (by first | rfl | assumption) rfl ?_
  refine wp_iconst (v := nI 0) (pc' := 3) rfl rfl rfl ?_
  refine wp_istore4 (pc' := 5) rfl (by first | rfl | assumption) rfl ?_
  have lp5 : ∀ r (i : Nat) (J : Mem), i + r = k → KpS I J → J 319 = (gonW true (I 319) o H i).2 → WP (d + 10) F_292 5 [.ref 318, .int (nI k), .int (nI 1), .int (gonW true (I 319) o H i).1, .int (nI i)] [] (K, J, L, R, n, s) Q := by
    intro r; induction r with
    | zero =>
      intro i J hi hv0 hv1
      have hi2 : i = k := by omega
      subst hi2
      refine wp_iload4 (pc' := 7) rfl rfl ?_
      refine wp_iload1 (pc' := 8) rfl rfl ?_
      refine wp_icmpgeT rfl (nI_nlt (by omega) (by omega)) ?_
      refine wp_iload3 (pc' := 26) rfl rfl ?_
      refine wp_iret rfl rfl rfl ?_
      exact kk _ hv0 hv1
    | succ r ih =>
      intro i J hi hv0 hv1
      have hlt : i < k := by omega
      refine wp_iload4 (pc' := 7) rfl rfl ?_
      refine wp_iload1 (pc' := 8) rfl rfl ?_
      refine wp_icmpgeF (pc' := 11) rfl (nI_lt (by omega) (by omega)) rfl ?_
      refine wp_iload3 (pc' := 12) rfl rfl ?_
      refine wp_aload0 (pc' := 13) rfl rfl ?_
      refine wp_iload2 (pc' := 14) rfl rfl ?_
      refine wp_callV2 (pc' := 17) rfl rfl rfl rfl rfl (by first | exact TK.k1 hT rfl | exact TK.kk hT rfl | exact TK.r hT rfl | assumption) rfl rfl ?_
      refine m_oneDay1 (o := o) (H := H) hT (by rw [hv1]; exact DWk_gon hdw i) (fun N hN hN9 => ?_)
      rw [hv1] at hN9 ⊢
      refine Cont.v ?_
      first | refine wp_iaddN (pc' := 18) rfl (by with_reducible rfl) (by with_reducible rfl) rfl ?_ | refine wp_iadd (pc' := 18) rfl rfl ?_
      refine wp_istore3 (pc' := 19) rfl (by first | rfl | assumption) rfl ?_
      first | refine wp_iinc4 (w := nI 1) (pc' := 22) rfl rfl rfl (by with_reducible exact nI_add _ _) rfl ?_ | refine wp_iinc4 (w := nI 1) (pc' := 22) rfl rfl rfl rfl rfl ?_
      refine wp_goto rfl ?_
      exact WP.cg (ih (i + 1) N (by omega) (hv0.tr hN) (by rw [hN9, gonW_s]; rfl)) (lC1 (lI1 (by first | with_reducible rfl | (rw [gonW_s]; rfl)) (lI1 (by first | with_reducible rfl | (rw [gonW_s]; rfl)) (lI1 (by first | with_reducible rfl | (rw [gonW_s]; rfl)) (lI1 (by first | with_reducible rfl | (rw [gonW_s]; rfl)) rfl))))) rfl (by rfl)
  exact WP.cg (lp5 (k - (0)) (0) I (by omega) KpS.rfl' (by rw [gonW_0])) (lC1 (lI1 (by first | with_reducible rfl | rw [gonW_0]) (lI1 (by first | with_reducible rfl | rw [gonW_0]) (lI1 (by first | with_reducible rfl | rw [gonW_0]) (lI1 (by first | with_reducible rfl | rw [gonW_0]) rfl))))) rfl (by rfl)
theorem m_goesOn0 {d : Nat} {K : Nat → Nat × Nat} {I : Nat → Nat → Int32} {L : Nat → Nat → Int64} {R : Nat → Nat → Option Nat} {n s : Nat} {Q : Lo → Lm → Prop} {o : RwT} {H k : Nat} (hT : TK K R n) (hdw : DWk (I 319) o H) (hk60 : k ≤ 60) (kk : ∀ J, KpS I J → J 319 = (gonW false (I 319) o H k).2 → Q (.inl (some (.int ((gonW false (I 319) o H k).1)))) (K, J, L, R, n, s)) : Ok (d + 11) 292 [.ref 318, .int (nI k), .int (nI 0)] (K, I, L, R, n, s) Q := by
  obtain ⟨-, -, hn⟩ := id hT
  refine Ok.enter (F := F_292) (ls := [.ref 318, .int (nI k), .int (nI 0), lDead, lDead]) rfl rfl ?_
  refine wp_iconst (v := nI 0) (pc' := 1) rfl rfl rfl ?_
  refine wp_istore3 (pc' := 2) rfl (by first | rfl | assumption) rfl ?_
  refine wp_iconst (v := nI 0) (pc' := 3) rfl rfl rfl ?_
  refine wp_istore4 (pc' := 5) rfl (by first | rfl | assumption) rfl ?_
  have lp5 : ∀ r (i : Nat) (J : Mem), i + r = k → KpS I J → J 319 = (gonW false (I 319) o H i).2 → WP (d + 10) F_292 5 [.ref 318, .int (nI k), .int (nI 0), .int (gonW false (I 319) o H i).1, .int (nI i)] [] (K, J, L, R, n, s) Q := by
    intro r; induction r with
    | zero =>
      intro i J hi hv0 hv1
      have hi2 : i = k := by omega
      subst hi2
      refine wp_iload4 (pc' := 7) rfl rfl ?_
      refine wp_iload1 (pc' := 8) rfl rfl ?_
      refine wp_icmpgeT rfl (nI_nlt (by omega) (by omega)) ?_
      refine wp_iload3 (pc' := 26) rfl rfl ?_
      refine wp_iret rfl rfl rfl ?_
      exact kk _ hv0 hv1
    | succ r ih =>
      intro i J hi hv0 hv1
      have hlt : i < k := by omega
      refine wp_iload4 (pc' := 7) rfl rfl ?_
      refine wp_iload1 (pc' := 8) rfl rfl ?_
      refine wp_icmpgeF (pc' := 11) rfl (nI_lt (by omega) (by omega)) rfl ?_
      refine wp_iload3 (pc' := 12) rfl rfl ?_
      refine wp_aload0 (pc' := 13) rfl rfl ?_
      refine wp_iload2 (pc' := 14) rfl rfl ?_
      refine wp_callV2 (pc' := 17) rfl rfl rfl rfl rfl (by first | exact TK.k1 hT rfl | exact TK.kk hT rfl | exact TK.r hT rfl | assumption) rfl rfl ?_
      refine m_oneDay0 (o := o) (H := H) hT (by rw [hv1]; exact DWk_gon hdw i) (fun N hN hN9 => ?_)
      rw [hv1] at hN9 ⊢
      refine Cont.v ?_
      first | refine wp_iaddN (pc' := 18) rfl (by with_reducible rfl) (by with_reducible rfl) rfl ?_ | refine wp_iadd (pc' := 18) rfl rfl ?_
      refine wp_istore3 (pc' := 19) rfl (by first | rfl | assumption) rfl ?_
      first | refine wp_iinc4 (w := nI 1) (pc' := 22) rfl rfl rfl (by with_reducible exact nI_add _ _) rfl ?_ | refine wp_iinc4 (w := nI 1) (pc' := 22) rfl rfl rfl rfl rfl ?_
      refine wp_goto rfl ?_
      exact WP.cg (ih (i + 1) N (by omega) (hv0.tr hN) (by rw [hN9, gonW_s]; rfl)) (lC1 (lI1 (by first | with_reducible rfl | (rw [gonW_s]; rfl)) (lI1 (by first | with_reducible rfl | (rw [gonW_s]; rfl)) (lI1 (by first | with_reducible rfl | (rw [gonW_s]; rfl)) (lI1 (by first | with_reducible rfl | (rw [gonW_s]; rfl)) rfl))))) rfl (by rfl)
  exact WP.cg (lp5 (k - (0)) (0) I (by omega) KpS.rfl' (by rw [gonW_0])) (lC1 (lI1 (by first | with_reducible rfl | rw [gonW_0]) (lI1 (by first | with_reducible rfl | rw [gonW_0]) (lI1 (by first | with_reducible rfl | rw [gonW_0]) (lI1 (by first | with_reducible rfl | rw [gonW_0]) rfl))))) rfl (by rfl)

/-- the first day at which p holds, or -1 -/
def frsW (p : Nat → Prop) [∀ i, Decidable (p i)] : Nat → Int32
  | 0 => -1
  | i + 1 => if frsW p i = -1 then (if p i then nI i else -1) else frsW p i
theorem frsW_s {p : Nat → Prop} [∀ i, Decidable (p i)] {i : Nat} : frsW p (i + 1) = if frsW p i = -1 then (if p i then nI i else -1) else frsW p i := rfl
theorem frsW_stay {p : Nat → Prop} [∀ i, Decidable (p i)] {i : Nat} (h : ¬ frsW p i = -1) : ∀ {k : Nat}, i ≤ k → frsW p k = frsW p i := by
  intro k hk
  induction k with
  | zero => rw [show i = 0 by omega]
  | succ k ih =>
    by_cases e : i = k + 1
    · rw [e]
    · have q := ih (by omega)
      rw [frsW_s, if_neg (by rw [q]; exact h)]
      exact q
theorem gon_hi {cal : Bool} {w : Nat → Int32} {o : RwT} {H : Nat} (h : DWk w o H) : ∀ i j, 483 ≤ j → (gonW cal w o H i).2 j = w j
  | 0, _, _ => rfl
  | i + 1, j, hj => by
    rw [gonW_s]
    unfold gonS
    have ih := gon_hi (cal := cal) h i j hj
    have hd := DWk_gon (cal := cal) h i
    have e : ∀ u, DWk u o H → (dayW u o H).2 j = u j := fun u hu => by
      have q := DWk_sd hu
      have d := dct_ok q.2.2.1 q.2.2.2 H (Nat.le_refl _)
      show up1 _ 6 _ j = _
      rw [up1_ne (by omega), d.2.2.2 j hj, dryW_neC (by omega), soaW_neC (by omega)]
    cases cal
    · show (dayW (skyW _) o H).2 j = _
      rw [e _ (DWk_sky hd)]
      unfold skyW
      rw [up1_ne (by omega), up1_ne (by omega), up1_ne (by omega), up1_ne (by omega)]
      exact ih
    · show (dayW (gonW true w o H i).2 o H).2 j = _
      rw [e _ hd]
      exact ih
theorem cpy_back {w u g : Nat → Int32} (h : ∀ j, 483 ≤ j → u j = w j) : cpy 483 (cpy 483 w g) u = w := by
  funext j
  unfold cpy
  by_cases q : j < 483
  · rw [if_pos q, if_pos q]
  · rw [if_neg q]; exact h j (by omega)
abbrev ripW (u : Nat → Int32) (c : Nat) : Prop := nI 0 < u (9 + 6 * c + 3) ∧ ¬ u (9 + 6 * c + 4) < nI 60

theorem m_firstRipe {d : Nat} {K : Nat → Nat × Nat} {I : Nat → Nat → Int32} {L : Nat → Nat → Int64} {R : Nat → Nat → Option Nat} {n s : Nat} {Q : Lo → Lm → Prop} {o : RwT} {H c : Nat} (hT : TK K R n) (hc : c < 25) (hdw : DWk (I 319) o H) (kk : ∀ g J, KpS (upr I 322 g) J → J 319 = I 319 → Q (.inl (some (.int (frsW (fun i => ripW (gonW true (I 319) o H i).2 c) 61)))) (K, J, L, R, n, s)) : Ok (d + 11) 274 [.ref 318, .int (nI c), .int (nI 1)] (K, I, L, R, n, s) Q := by
  obtain ⟨-, -, hn⟩ := id hT
  refine Ok.enter (F := F_274) (ls := [.ref 318, .int (nI c), .int (nI 1), lDead, lDead, lDead]) rfl rfl ?_
  refine wp_aload0 (pc' := 1) rfl rfl ?_
  refine wp_callV1 (pc' := 4) rfl rfl rfl rfl rfl (by first | exact TK.k1 hT rfl | exact TK.kk hT rfl | exact TK.r hT rfl | assumption) rfl rfl ?_
  refine m_keepsAll hT ?_
  obtain ⟨M, hM⟩ : ∃ M, M = upr I 322 (cpy 483 (I 319) (I 322)) := ⟨_, rfl⟩
  have hM9 : M 319 = I 319 := by rw [hM, upr_ne (by decide)]
  rw [← hM]
  refine Cont.u ?_
  refine wp_iconst (v := (-1)) (pc' := 5) rfl rfl rfl ?_
  refine wp_istore3 (pc' := 6) rfl (by first | rfl | assumption) rfl ?_
  refine wp_iconst (v := nI 0) (pc' := 7) rfl rfl rfl ?_
  refine wp_istore4 (pc' := 9) rfl (by first | rfl | assumption) rfl ?_
  have lp9 : ∀ r (i : Nat) (J : Mem) (y : Int32) (v5 : Value), i + r = 61 → KpS M J → J 319 = (gonW true (I 319) o H i).2 → frsW (fun i => ripW (gonW true (I 319) o H i).2 c) i = y → isL v5 = false → WP (d + 10) F_274 9 [.ref 318, .int (nI c), .int (nI 1), .int y, .int (nI i), v5] [] (K, J, L, R, n, s) Q := by
    intro r; induction r with
    | zero =>
      intro i J y v5 hi hv0 hv1 hv2 hv3
      have hi2 : i = 61 := by omega
      subst hi2
      refine wp_iload4 (pc' := 11) rfl rfl ?_
      refine wp_bipush (v := nI 60) (pc' := 13) rfl rfl rfl ?_
      refine wp_icmpgtT rfl (nI_lt (by omega) (by omega)) ?_
      refine wp_aload0 (pc' := 85) rfl rfl ?_
      refine wp_callV1 (pc' := 88) rfl rfl rfl rfl rfl (by first | exact TK.k1 hT rfl | exact TK.kk hT rfl | exact TK.r hT rfl | assumption) rfl rfl ?_
      refine m_bringsBack hT ?_
      rw [hv1, hv0 322 (by omega), hM, upr_same, cpy_back (gon_hi hdw _)]
      refine Cont.u ?_
      refine wp_iload3 (pc' := 89) rfl rfl ?_
      refine wp_iret rfl rfl rfl ?_
      rw [hM] at hv0
      first | exact Qv (kk _ _ (hv0.upr (b := 319) (by omega)) upr_same) (by rw [← hv2]; exact (frsW_stay (by rw [hv2]; exact h18) (by omega)).symm) rfl | exact Qv (kk _ _ (hv0.upr (b := 319) (by omega)) upr_same) hv2.symm rfl
    | succ r ih =>
      intro i J y v5 hi hv0 hv1 hv2 hv3
      have hlt : i < 61 := by omega
      refine wp_iload4 (pc' := 11) rfl rfl ?_
      refine wp_bipush (v := nI 60) (pc' := 13) rfl rfl rfl ?_
      refine wp_icmpgtF (pc' := 16) rfl (nI_nlt (by omega) (by omega)) rfl ?_
      refine wp_iload3 (pc' := 17) rfl rfl ?_
      refine wp_iconst (v := (-1)) (pc' := 18) rfl rfl rfl ?_
      refine wp_icmpne (pc' := 21) rfl rfl ?_ ?_
      · intro h18
        refine wp_aload0 (pc' := 85) rfl rfl ?_
        refine wp_callV1 (pc' := 88) rfl rfl rfl rfl rfl (by first | exact TK.k1 hT rfl | exact TK.kk hT rfl | exact TK.r hT rfl | assumption) rfl rfl ?_
        refine m_bringsBack hT ?_
        rw [hv1, hv0 322 (by omega), hM, upr_same, cpy_back (gon_hi hdw _)]
        refine Cont.u ?_
        refine wp_iload3 (pc' := 89) rfl rfl ?_
        refine wp_iret rfl rfl rfl ?_
        rw [hM] at hv0
        first | exact Qv (kk _ _ (hv0.upr (b := 319) (by omega)) upr_same) (by rw [← hv2]; exact (frsW_stay (by rw [hv2]; exact h18) (by omega)).symm) rfl | exact Qv (kk _ _ (hv0.upr (b := 319) (by omega)) upr_same) hv2.symm rfl
      · intro h18
        refine wp_iload2 (pc' := 22) rfl rfl ?_
        refine wp_ifeqF (pc' := 25) rfl (by decide) rfl ?_
        refine wp_aload0 (pc' := 26) rfl rfl ?_
        refine wp_iload1 (pc' := 27) rfl rfl ?_
        refine wp_iconst (v := nI 3) (pc' := 28) rfl rfl rfl ?_
        refine wp_callV3 (pc' := 31) rfl rfl rfl rfl rfl (by first | exact TK.k1 hT rfl | exact TK.kk hT rfl | exact TK.r hT rfl | assumption) rfl rfl ?_
        refine m_of hT hc (by decide) ?_
        rw [hv1]
        refine Cont.v ?_
        refine wp_ifle (pc' := 34) rfl rfl ?_ ?_
        · intro h31
          refine wp_iconst (v := nI 0) (pc' := 50) rfl rfl rfl ?_
          refine wp_goto rfl ?_
          refine wp_istore5 (pc' := 60) rfl (by first | rfl | assumption) rfl ?_
          refine wp_iload5 (pc' := 62) rfl rfl ?_
          refine wp_ifeqT rfl rfl ?_
          refine wp_iconst (v := (-1)) (pc' := 71) rfl rfl rfl ?_
          refine wp_istore3 (pc' := 72) rfl (by first | rfl | assumption) rfl ?_
          refine wp_aload0 (pc' := 73) rfl rfl ?_
          refine wp_iconst (v := nI 1) (pc' := 74) rfl rfl rfl ?_
          refine wp_callV2 (pc' := 77) rfl rfl rfl rfl rfl (by first | exact TK.k1 hT rfl | exact TK.kk hT rfl | exact TK.r hT rfl | assumption) rfl rfl ?_
          refine m_oneDay1 (o := o) (H := H) hT (by rw [hv1]; exact DWk_gon hdw i) (fun N hN hN9 => ?_)
          rw [hv1] at hN9 ⊢
          refine Cont.v ?_
          refine wp_pop (pc' := 78) rfl rfl rfl ?_
          first | refine wp_iinc4 (w := nI 1) (pc' := 81) rfl rfl rfl (by with_reducible exact nI_add _ _) rfl ?_ | refine wp_iinc4 (w := nI 1) (pc' := 81) rfl rfl rfl rfl rfl ?_
          refine wp_goto rfl ?_
          exact WP.cg (ih (i + 1) N (frsW (fun i => ripW (gonW true (I 319) o H i).2 c) (i + 1)) _ (by omega) (hv0.tr hN) (by rw [hN9, gonW_s]; rfl) rfl (by first | rfl | assumption)) (lC1 (lI1 (by first | with_reducible rfl | (rw [frsW_s, if_pos (hv2.trans h18)]; first | exact (if_pos h62).symm | exact (if_neg h62).symm | (refine Eq.symm (if_neg ?_); exact fun q => h31 q.1) | (refine Eq.symm (if_pos ?_); exact And.intro h31 h42) | (refine Eq.symm (if_neg ?_); exact fun q => q.2 h42) | (refine Eq.symm (if_neg ?_); exact fun q => h42 q.2))) (lI1 (by first | with_reducible rfl | (rw [frsW_s, if_pos (hv2.trans h18)]; first | exact (if_pos h62).symm | exact (if_neg h62).symm | (refine Eq.symm (if_neg ?_); exact fun q => h31 q.1) | (refine Eq.symm (if_pos ?_); exact And.intro h31 h42) | (refine Eq.symm (if_neg ?_); exact fun q => q.2 h42) | (refine Eq.symm (if_neg ?_); exact fun q => h42 q.2))) (lI1 (by first | with_reducible rfl | (rw [frsW_s, if_pos (hv2.trans h18)]; first | exact (if_pos h62).symm | exact (if_neg h62).symm | (refine Eq.symm (if_neg ?_); exact fun q => h31 q.1) | (refine Eq.symm (if_pos ?_); exact And.intro h31 h42) | (refine Eq.symm (if_neg ?_); exact fun q => q.2 h42) | (refine Eq.symm (if_neg ?_); exact fun q => h42 q.2))) (lI1 (by first | with_reducible rfl | (rw [frsW_s, if_pos (hv2.trans h18)]; first | exact (if_pos h62).symm | exact (if_neg h62).symm | (refine Eq.symm (if_neg ?_); exact fun q => h31 q.1) | (refine Eq.symm (if_pos ?_); exact And.intro h31 h42) | (refine Eq.symm (if_neg ?_); exact fun q => q.2 h42) | (refine Eq.symm (if_neg ?_); exact fun q => h42 q.2))) (lC1 rfl)))))) rfl (by rfl)
        · intro h31
          refine wp_aload0 (pc' := 35) rfl rfl ?_
          refine wp_iload1 (pc' := 36) rfl rfl ?_
          refine wp_iconst (v := nI 4) (pc' := 37) rfl rfl rfl ?_
          refine wp_callV3 (pc' := 40) rfl rfl rfl rfl rfl (by first | exact TK.k1 hT rfl | exact TK.kk hT rfl | exact TK.r hT rfl | assumption) rfl rfl ?_
          refine m_of hT hc (by decide) ?_
          rw [hv1]
          refine Cont.v ?_
          refine wp_bipush (v := nI 60) (pc' := 42) rfl rfl rfl ?_
          refine wp_icmplt (pc' := 45) rfl rfl ?_ ?_
          · intro h42
            refine wp_iconst (v := nI 0) (pc' := 50) rfl rfl rfl ?_
            refine wp_goto rfl ?_
            refine wp_istore5 (pc' := 60) rfl (by first | rfl | assumption) rfl ?_
            refine wp_iload5 (pc' := 62) rfl rfl ?_
            refine wp_ifeqT rfl rfl ?_
            refine wp_iconst (v := (-1)) (pc' := 71) rfl rfl rfl ?_
            refine wp_istore3 (pc' := 72) rfl (by first | rfl | assumption) rfl ?_
            refine wp_aload0 (pc' := 73) rfl rfl ?_
            refine wp_iconst (v := nI 1) (pc' := 74) rfl rfl rfl ?_
            refine wp_callV2 (pc' := 77) rfl rfl rfl rfl rfl (by first | exact TK.k1 hT rfl | exact TK.kk hT rfl | exact TK.r hT rfl | assumption) rfl rfl ?_
            refine m_oneDay1 (o := o) (H := H) hT (by rw [hv1]; exact DWk_gon hdw i) (fun N hN hN9 => ?_)
            rw [hv1] at hN9 ⊢
            refine Cont.v ?_
            refine wp_pop (pc' := 78) rfl rfl rfl ?_
            first | refine wp_iinc4 (w := nI 1) (pc' := 81) rfl rfl rfl (by with_reducible exact nI_add _ _) rfl ?_ | refine wp_iinc4 (w := nI 1) (pc' := 81) rfl rfl rfl rfl rfl ?_
            refine wp_goto rfl ?_
            exact WP.cg (ih (i + 1) N (frsW (fun i => ripW (gonW true (I 319) o H i).2 c) (i + 1)) _ (by omega) (hv0.tr hN) (by rw [hN9, gonW_s]; rfl) rfl (by first | rfl | assumption)) (lC1 (lI1 (by first | with_reducible rfl | (rw [frsW_s, if_pos (hv2.trans h18)]; first | exact (if_pos h62).symm | exact (if_neg h62).symm | (refine Eq.symm (if_neg ?_); exact fun q => h31 q.1) | (refine Eq.symm (if_pos ?_); exact And.intro h31 h42) | (refine Eq.symm (if_neg ?_); exact fun q => q.2 h42) | (refine Eq.symm (if_neg ?_); exact fun q => h42 q.2))) (lI1 (by first | with_reducible rfl | (rw [frsW_s, if_pos (hv2.trans h18)]; first | exact (if_pos h62).symm | exact (if_neg h62).symm | (refine Eq.symm (if_neg ?_); exact fun q => h31 q.1) | (refine Eq.symm (if_pos ?_); exact And.intro h31 h42) | (refine Eq.symm (if_neg ?_); exact fun q => q.2 h42) | (refine Eq.symm (if_neg ?_); exact fun q => h42 q.2))) (lI1 (by first | with_reducible rfl | (rw [frsW_s, if_pos (hv2.trans h18)]; first | exact (if_pos h62).symm | exact (if_neg h62).symm | (refine Eq.symm (if_neg ?_); exact fun q => h31 q.1) | (refine Eq.symm (if_pos ?_); exact And.intro h31 h42) | (refine Eq.symm (if_neg ?_); exact fun q => q.2 h42) | (refine Eq.symm (if_neg ?_); exact fun q => h42 q.2))) (lI1 (by first | with_reducible rfl | (rw [frsW_s, if_pos (hv2.trans h18)]; first | exact (if_pos h62).symm | exact (if_neg h62).symm | (refine Eq.symm (if_neg ?_); exact fun q => h31 q.1) | (refine Eq.symm (if_pos ?_); exact And.intro h31 h42) | (refine Eq.symm (if_neg ?_); exact fun q => q.2 h42) | (refine Eq.symm (if_neg ?_); exact fun q => h42 q.2))) (lC1 rfl)))))) rfl (by rfl)
          · intro h42
            refine wp_iconst (v := nI 1) (pc' := 46) rfl rfl rfl ?_
            refine wp_goto rfl ?_
            refine wp_istore5 (pc' := 60) rfl (by first | rfl | assumption) rfl ?_
            refine wp_iload5 (pc' := 62) rfl rfl ?_
            refine wp_ifeqF (pc' := 65) rfl (by decide) rfl ?_
            refine wp_iload4 (pc' := 67) rfl rfl ?_
            refine wp_goto rfl ?_
            refine wp_istore3 (pc' := 72) rfl (by first | rfl | assumption) rfl ?_
            refine wp_aload0 (pc' := 73) rfl rfl ?_
            refine wp_iconst (v := nI 1) (pc' := 74) rfl rfl rfl ?_
            refine wp_callV2 (pc' := 77) rfl rfl rfl rfl rfl (by first | exact TK.k1 hT rfl | exact TK.kk hT rfl | exact TK.r hT rfl | assumption) rfl rfl ?_
            refine m_oneDay1 (o := o) (H := H) hT (by rw [hv1]; exact DWk_gon hdw i) (fun N hN hN9 => ?_)
            rw [hv1] at hN9 ⊢
            refine Cont.v ?_
            refine wp_pop (pc' := 78) rfl rfl rfl ?_
            first | refine wp_iinc4 (w := nI 1) (pc' := 81) rfl rfl rfl (by with_reducible exact nI_add _ _) rfl ?_ | refine wp_iinc4 (w := nI 1) (pc' := 81) rfl rfl rfl rfl rfl ?_
            refine wp_goto rfl ?_
            exact WP.cg (ih (i + 1) N (frsW (fun i => ripW (gonW true (I 319) o H i).2 c) (i + 1)) _ (by omega) (hv0.tr hN) (by rw [hN9, gonW_s]; rfl) rfl (by first | rfl | assumption)) (lC1 (lI1 (by first | with_reducible rfl | (rw [frsW_s, if_pos (hv2.trans h18)]; first | exact (if_pos h62).symm | exact (if_neg h62).symm | (refine Eq.symm (if_neg ?_); exact fun q => h31 q.1) | (refine Eq.symm (if_pos ?_); exact And.intro h31 h42) | (refine Eq.symm (if_neg ?_); exact fun q => q.2 h42) | (refine Eq.symm (if_neg ?_); exact fun q => h42 q.2))) (lI1 (by first | with_reducible rfl | (rw [frsW_s, if_pos (hv2.trans h18)]; first | exact (if_pos h62).symm | exact (if_neg h62).symm | (refine Eq.symm (if_neg ?_); exact fun q => h31 q.1) | (refine Eq.symm (if_pos ?_); exact And.intro h31 h42) | (refine Eq.symm (if_neg ?_); exact fun q => q.2 h42) | (refine Eq.symm (if_neg ?_); exact fun q => h42 q.2))) (lI1 (by first | with_reducible rfl | (rw [frsW_s, if_pos (hv2.trans h18)]; first | exact (if_pos h62).symm | exact (if_neg h62).symm | (refine Eq.symm (if_neg ?_); exact fun q => h31 q.1) | (refine Eq.symm (if_pos ?_); exact And.intro h31 h42) | (refine Eq.symm (if_neg ?_); exact fun q => q.2 h42) | (refine Eq.symm (if_neg ?_); exact fun q => h42 q.2))) (lI1 (by first | with_reducible rfl | (rw [frsW_s, if_pos (hv2.trans h18)]; first | exact (if_pos h62).symm | exact (if_neg h62).symm | (refine Eq.symm (if_neg ?_); exact fun q => h31 q.1) | (refine Eq.symm (if_pos ?_); exact And.intro h31 h42) | (refine Eq.symm (if_neg ?_); exact fun q => q.2 h42) | (refine Eq.symm (if_neg ?_); exact fun q => h42 q.2))) (lC1 rfl)))))) rfl (by rfl)
  exact WP.cg (lp9 (61 - (0)) (0) M (-1) _ (by omega) KpS.rfl' hM9 rfl (by first | rfl | assumption)) (lC1 (lI1 (by first | with_reducible rfl | rfl) (lI1 (by first | with_reducible rfl | rfl) (lI1 (by first | with_reducible rfl | rfl) (lI1 (by first | with_reducible rfl | rfl) (lC1 rfl)))))) rfl (by rfl)
theorem m_firstOpen {d : Nat} {K : Nat → Nat × Nat} {I : Nat → Nat → Int32} {L : Nat → Nat → Int64} {R : Nat → Nat → Option Nat} {n s : Nat} {Q : Lo → Lm → Prop} {o : RwT} {H c : Nat} (hT : TK K R n) (hc : c < 25) (hdw : DWk (I 319) o H) (kk : ∀ g J, KpS (upr I 322 g) J → J 319 = I 319 → Q (.inl (some (.int (frsW (fun i => openQ (Sv (gonW true (I 319) o H i).2) c) 61)))) (K, J, L, R, n, s)) : Ok (d + 11) 274 [.ref 318, .int (nI c), .int (nI 0)] (K, I, L, R, n, s) Q := by
  obtain ⟨-, -, hn⟩ := id hT
  refine Ok.enter (F := F_274) (ls := [.ref 318, .int (nI c), .int (nI 0), lDead, lDead, lDead]) rfl rfl ?_
  refine wp_aload0 (pc' := 1) rfl rfl ?_
  refine wp_callV1 (pc' := 4) rfl rfl rfl rfl rfl (by first | exact TK.k1 hT rfl | exact TK.kk hT rfl | exact TK.r hT rfl | assumption) rfl rfl ?_
  refine m_keepsAll hT ?_
  obtain ⟨M, hM⟩ : ∃ M, M = upr I 322 (cpy 483 (I 319) (I 322)) := ⟨_, rfl⟩
  have hM9 : M 319 = I 319 := by rw [hM, upr_ne (by decide)]
  rw [← hM]
  refine Cont.u ?_
  refine wp_iconst (v := (-1)) (pc' := 5) rfl rfl rfl ?_
  refine wp_istore3 (pc' := 6) rfl (by first | rfl | assumption) rfl ?_
  refine wp_iconst (v := nI 0) (pc' := 7) rfl rfl rfl ?_
  refine wp_istore4 (pc' := 9) rfl (by first | rfl | assumption) rfl ?_
  have lp9 : ∀ r (i : Nat) (J : Mem) (y : Int32) (v5 : Value), i + r = 61 → KpS M J → J 319 = (gonW true (I 319) o H i).2 → frsW (fun i => openQ (Sv (gonW true (I 319) o H i).2) c) i = y → isL v5 = false → WP (d + 10) F_274 9 [.ref 318, .int (nI c), .int (nI 0), .int y, .int (nI i), v5] [] (K, J, L, R, n, s) Q := by
    intro r; induction r with
    | zero =>
      intro i J y v5 hi hv0 hv1 hv2 hv3
      have hi2 : i = 61 := by omega
      subst hi2
      refine wp_iload4 (pc' := 11) rfl rfl ?_
      refine wp_bipush (v := nI 60) (pc' := 13) rfl rfl rfl ?_
      refine wp_icmpgtT rfl (nI_lt (by omega) (by omega)) ?_
      refine wp_aload0 (pc' := 85) rfl rfl ?_
      refine wp_callV1 (pc' := 88) rfl rfl rfl rfl rfl (by first | exact TK.k1 hT rfl | exact TK.kk hT rfl | exact TK.r hT rfl | assumption) rfl rfl ?_
      refine m_bringsBack hT ?_
      rw [hv1, hv0 322 (by omega), hM, upr_same, cpy_back (gon_hi hdw _)]
      refine Cont.u ?_
      refine wp_iload3 (pc' := 89) rfl rfl ?_
      refine wp_iret rfl rfl rfl ?_
      rw [hM] at hv0
      first | exact Qv (kk _ _ (hv0.upr (b := 319) (by omega)) upr_same) (by rw [← hv2]; exact (frsW_stay (by rw [hv2]; exact h18) (by omega)).symm) rfl | exact Qv (kk _ _ (hv0.upr (b := 319) (by omega)) upr_same) hv2.symm rfl
    | succ r ih =>
      intro i J y v5 hi hv0 hv1 hv2 hv3
      have hlt : i < 61 := by omega
      refine wp_iload4 (pc' := 11) rfl rfl ?_
      refine wp_bipush (v := nI 60) (pc' := 13) rfl rfl rfl ?_
      refine wp_icmpgtF (pc' := 16) rfl (nI_nlt (by omega) (by omega)) rfl ?_
      refine wp_iload3 (pc' := 17) rfl rfl ?_
      refine wp_iconst (v := (-1)) (pc' := 18) rfl rfl rfl ?_
      refine wp_icmpne (pc' := 21) rfl rfl ?_ ?_
      · intro h18
        refine wp_aload0 (pc' := 85) rfl rfl ?_
        refine wp_callV1 (pc' := 88) rfl rfl rfl rfl rfl (by first | exact TK.k1 hT rfl | exact TK.kk hT rfl | exact TK.r hT rfl | assumption) rfl rfl ?_
        refine m_bringsBack hT ?_
        rw [hv1, hv0 322 (by omega), hM, upr_same, cpy_back (gon_hi hdw _)]
        refine Cont.u ?_
        refine wp_iload3 (pc' := 89) rfl rfl ?_
        refine wp_iret rfl rfl rfl ?_
        rw [hM] at hv0
        first | exact Qv (kk _ _ (hv0.upr (b := 319) (by omega)) upr_same) (by rw [← hv2]; exact (frsW_stay (by rw [hv2]; exact h18) (by omega)).symm) rfl | exact Qv (kk _ _ (hv0.upr (b := 319) (by omega)) upr_same) hv2.symm rfl
      · intro h18
        refine wp_iload2 (pc' := 22) rfl rfl ?_
        refine wp_ifeqT rfl rfl ?_
        refine wp_aload0 (pc' := 54) rfl rfl ?_
        refine wp_iload1 (pc' := 55) rfl rfl ?_
        refine wp_callV2 (pc' := 58) rfl rfl rfl rfl rfl (by first | exact TK.k1 hT rfl | exact TK.kk hT rfl | exact TK.r hT rfl | assumption) rfl rfl ?_
        refine m_isOpen hT hc ?_
        rw [hv1]
        refine Cont.v ?_
        refine wp_istore5 (pc' := 60) rfl (by first | rfl | assumption) rfl ?_
        refine wp_iload5 (pc' := 62) rfl rfl ?_
        first | refine wp_ifeqB (pc' := 65) rfl rfl ?_ ?_ | refine wp_ifeq (pc' := 65) rfl rfl ?_ ?_
        · intro h62
          refine wp_iconst (v := (-1)) (pc' := 71) rfl rfl rfl ?_
          refine wp_istore3 (pc' := 72) rfl (by first | rfl | assumption) rfl ?_
          refine wp_aload0 (pc' := 73) rfl rfl ?_
          refine wp_iconst (v := nI 1) (pc' := 74) rfl rfl rfl ?_
          refine wp_callV2 (pc' := 77) rfl rfl rfl rfl rfl (by first | exact TK.k1 hT rfl | exact TK.kk hT rfl | exact TK.r hT rfl | assumption) rfl rfl ?_
          refine m_oneDay1 (o := o) (H := H) hT (by rw [hv1]; exact DWk_gon hdw i) (fun N hN hN9 => ?_)
          rw [hv1] at hN9 ⊢
          refine Cont.v ?_
          refine wp_pop (pc' := 78) rfl rfl rfl ?_
          first | refine wp_iinc4 (w := nI 1) (pc' := 81) rfl rfl rfl (by with_reducible exact nI_add _ _) rfl ?_ | refine wp_iinc4 (w := nI 1) (pc' := 81) rfl rfl rfl rfl rfl ?_
          refine wp_goto rfl ?_
          exact WP.cg (ih (i + 1) N (frsW (fun i => openQ (Sv (gonW true (I 319) o H i).2) c) (i + 1)) _ (by omega) (hv0.tr hN) (by rw [hN9, gonW_s]; rfl) rfl (by first | rfl | assumption)) (lC1 (lI1 (by first | with_reducible rfl | (rw [frsW_s, if_pos (hv2.trans h18)]; first | exact (if_pos h62).symm | exact (if_neg h62).symm | (refine Eq.symm (if_neg ?_); exact fun q => h31 q.1) | (refine Eq.symm (if_pos ?_); exact And.intro h31 h42) | (refine Eq.symm (if_neg ?_); exact fun q => q.2 h42) | (refine Eq.symm (if_neg ?_); exact fun q => h42 q.2))) (lI1 (by first | with_reducible rfl | (rw [frsW_s, if_pos (hv2.trans h18)]; first | exact (if_pos h62).symm | exact (if_neg h62).symm | (refine Eq.symm (if_neg ?_); exact fun q => h31 q.1) | (refine Eq.symm (if_pos ?_); exact And.intro h31 h42) | (refine Eq.symm (if_neg ?_); exact fun q => q.2 h42) | (refine Eq.symm (if_neg ?_); exact fun q => h42 q.2))) (lI1 (by first | with_reducible rfl | (rw [frsW_s, if_pos (hv2.trans h18)]; first | exact (if_pos h62).symm | exact (if_neg h62).symm | (refine Eq.symm (if_neg ?_); exact fun q => h31 q.1) | (refine Eq.symm (if_pos ?_); exact And.intro h31 h42) | (refine Eq.symm (if_neg ?_); exact fun q => q.2 h42) | (refine Eq.symm (if_neg ?_); exact fun q => h42 q.2))) (lI1 (by first | with_reducible rfl | (rw [frsW_s, if_pos (hv2.trans h18)]; first | exact (if_pos h62).symm | exact (if_neg h62).symm | (refine Eq.symm (if_neg ?_); exact fun q => h31 q.1) | (refine Eq.symm (if_pos ?_); exact And.intro h31 h42) | (refine Eq.symm (if_neg ?_); exact fun q => q.2 h42) | (refine Eq.symm (if_neg ?_); exact fun q => h42 q.2))) (lC1 rfl)))))) rfl (by rfl)
        · intro h62
          refine wp_iload4 (pc' := 67) rfl rfl ?_
          refine wp_goto rfl ?_
          refine wp_istore3 (pc' := 72) rfl (by first | rfl | assumption) rfl ?_
          refine wp_aload0 (pc' := 73) rfl rfl ?_
          refine wp_iconst (v := nI 1) (pc' := 74) rfl rfl rfl ?_
          refine wp_callV2 (pc' := 77) rfl rfl rfl rfl rfl (by first | exact TK.k1 hT rfl | exact TK.kk hT rfl | exact TK.r hT rfl | assumption) rfl rfl ?_
          refine m_oneDay1 (o := o) (H := H) hT (by rw [hv1]; exact DWk_gon hdw i) (fun N hN hN9 => ?_)
          rw [hv1] at hN9 ⊢
          refine Cont.v ?_
          refine wp_pop (pc' := 78) rfl rfl rfl ?_
          first | refine wp_iinc4 (w := nI 1) (pc' := 81) rfl rfl rfl (by with_reducible exact nI_add _ _) rfl ?_ | refine wp_iinc4 (w := nI 1) (pc' := 81) rfl rfl rfl rfl rfl ?_
          refine wp_goto rfl ?_
          exact WP.cg (ih (i + 1) N (frsW (fun i => openQ (Sv (gonW true (I 319) o H i).2) c) (i + 1)) _ (by omega) (hv0.tr hN) (by rw [hN9, gonW_s]; rfl) rfl (by first | rfl | assumption)) (lC1 (lI1 (by first | with_reducible rfl | (rw [frsW_s, if_pos (hv2.trans h18)]; first | exact (if_pos h62).symm | exact (if_neg h62).symm | (refine Eq.symm (if_neg ?_); exact fun q => h31 q.1) | (refine Eq.symm (if_pos ?_); exact And.intro h31 h42) | (refine Eq.symm (if_neg ?_); exact fun q => q.2 h42) | (refine Eq.symm (if_neg ?_); exact fun q => h42 q.2))) (lI1 (by first | with_reducible rfl | (rw [frsW_s, if_pos (hv2.trans h18)]; first | exact (if_pos h62).symm | exact (if_neg h62).symm | (refine Eq.symm (if_neg ?_); exact fun q => h31 q.1) | (refine Eq.symm (if_pos ?_); exact And.intro h31 h42) | (refine Eq.symm (if_neg ?_); exact fun q => q.2 h42) | (refine Eq.symm (if_neg ?_); exact fun q => h42 q.2))) (lI1 (by first | with_reducible rfl | (rw [frsW_s, if_pos (hv2.trans h18)]; first | exact (if_pos h62).symm | exact (if_neg h62).symm | (refine Eq.symm (if_neg ?_); exact fun q => h31 q.1) | (refine Eq.symm (if_pos ?_); exact And.intro h31 h42) | (refine Eq.symm (if_neg ?_); exact fun q => q.2 h42) | (refine Eq.symm (if_neg ?_); exact fun q => h42 q.2))) (lI1 (by first | with_reducible rfl | (rw [frsW_s, if_pos (hv2.trans h18)]; first | exact (if_pos h62).symm | exact (if_neg h62).symm | (refine Eq.symm (if_neg ?_); exact fun q => h31 q.1) | (refine Eq.symm (if_pos ?_); exact And.intro h31 h42) | (refine Eq.symm (if_neg ?_); exact fun q => q.2 h42) | (refine Eq.symm (if_neg ?_); exact fun q => h42 q.2))) (lC1 rfl)))))) rfl (by rfl)
  exact WP.cg (lp9 (61 - (0)) (0) M (-1) _ (by omega) KpS.rfl' hM9 rfl (by first | rfl | assumption)) (lC1 (lI1 (by first | with_reducible rfl | rfl) (lI1 (by first | with_reducible rfl | rfl) (lI1 (by first | with_reducible rfl | rfl) (lI1 (by first | with_reducible rfl | rfl) (lC1 rfl)))))) rfl (by rfl)
