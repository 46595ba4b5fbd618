/-! THE REFERENCE: days one after the other -/
def gonS (cal : Bool) (o : RwT) (H : Nat) (p : Int32 × (Nat → Int32)) : Int32 × (Nat → Int32) := (p.1 + (dayW (bif cal then p.2 else skyW p.2) o H).1, (dayW (bif cal then p.2 else skyW p.2) o H).2)
def gonW (cal : Bool) (w : Nat → Int32) (o : RwT) (H i : Nat) : Int32 × (Nat → Int32) := forN (fun _ p => gonS cal o H p) (nI 0, w) i
theorem gonW_0 {cal : Bool} {w : Nat → Int32} {o : RwT} {H : Nat} : gonW cal w o H 0 = (nI 0, w) := rfl
theorem gonW_s {cal : Bool} {w : Nat → Int32} {o : RwT} {H i : Nat} : gonW cal w o H (i + 1) = gonS cal o H (gonW cal w o H i) := rfl
theorem DWk_gon {cal : Bool} {w : Nat → Int32} {o : RwT} {H : Nat} (h : DWk w o H) : ∀ i, DWk (gonW cal w o H i).2 o H
  | 0 => h
  | i + 1 => by
    rw [gonW_s]
    unfold gonS
    cases cal
    · exact DWk_day (DWk_sky (DWk_gon h i))
    · exact DWk_day (DWk_gon h i)

theorem m_goesOn1 {d : Nat} {K : Nat → Nat × Nat} {I : Nat → Nat → Int32} {L : Nat → Nat → Int64} {R : Nat → Nat → Option Nat} {n s : Nat} {Q : Lo → Lm → Prop} {o : RwT} {H k : Nat} (hT : TK K R n) (hdw : DWk (I 319) o H) (hk60 : k ≤ 60) (kk : ∀ J, KpS I J → J 319 = (gonW true (I 319) o H k).2 → Q (.inl (some (.int ((gonW true (I 319) o H k).1)))) (K, J, L, R, n, s)) : Ok (d + 11) 292 [.ref 318, .int (nI k), .int (nI 1)] (K, I, L, R, n, s) Q := by
  obtain ⟨-, -, hn⟩ := id hT
  refine Ok.enter (F := F_292) (ls := [.ref 318, .int (nI k), .int (nI 1), lDead, lDead]) rfl rfl ?_
  refine wp_iconst (v := nI 0) (pc' := 1) rfl rfl rfl ?_
  refine wp_istore3 (pc' := 2) rfl (by first | rfl | assumption) rfl ?_
  refine wp_iconst (v := nI 0) (pc' := 3) rfl rfl rfl ?_
  refine wp_istore4 (pc' := 5) rfl (by first | rfl | assumption) rfl ?_
  have lp5 : ∀ r (i : Nat) (J : Mem), i + r = k → KpS I J → J 319 = (gonW true (I 319) o H i).2 → WP (d + 10) F_292 5 [.ref 318, .int (nI k), .int (nI 1), .int (gonW true (I 319) o H i).1, .int (nI i)] [] (K, J, L, R, n, s) Q := by
    intro r; induction r with
    | zero =>
      intro i J hi hv0 hv1
      have hi2 : i = k := by omega
      subst hi2
      refine wp_iload4 (pc' := 7) rfl rfl ?_
      refine wp_iload1 (pc' := 8) rfl rfl ?_
      refine wp_icmpgeT rfl (nI_nlt (by omega) (by omega)) ?_
      refine wp_iload3 (pc' := 26) rfl rfl ?_
      refine wp_iret rfl rfl rfl ?_
      exact kk _ hv0 hv1
    | succ r ih =>
      intro i J hi hv0 hv1
      have hlt : i < k := by omega
      refine wp_iload4 (pc' := 7) rfl rfl ?_
      refine wp_iload1 (pc' := 8) rfl rfl ?_
      refine wp_icmpgeF (pc' := 11) rfl (nI_lt (by omega) (by omega)) rfl ?_
      refine wp_iload3 (pc' := 12) rfl rfl ?_
      refine wp_aload0 (pc' := 13) rfl rfl ?_
      refine wp_iload2 (pc' := 14) rfl rfl ?_
      refine wp_callV2 (pc' := 17) rfl rfl rfl rfl rfl (by first | exact TK.k1 hT rfl | exact TK.kk hT rfl | exact TK.r hT rfl | assumption) rfl rfl ?_
      refine m_oneDay1 (o := o) (H := H) hT (by rw [hv1]; exact DWk_gon hdw i) (fun N hN hN9 => ?_)
      rw [hv1] at hN9 ⊢
      refine Cont.v ?_
      first | refine wp_iaddN (pc' := 18) rfl (by with_reducible rfl) (by with_reducible rfl) rfl ?_ | refine wp_iadd (pc' := 18) rfl rfl ?_
      refine wp_istore3 (pc' := 19) rfl (by first | rfl | assumption) rfl ?_
      first | refine wp_iinc4 (w := nI 1) (pc' := 22) rfl rfl rfl (by with_reducible exact nI_add _ _) rfl ?_ | refine wp_iinc4 (w := nI 1) (pc' := 22) rfl rfl rfl rfl rfl ?_
      refine wp_goto rfl ?_
      exact WP.cg (ih (i + 1) N (by omega) (hv0.tr hN) (by rw [hN9, gonW_s]; rfl)) (lC1 (lI1 (by first | with_reducible rfl | (rw [gonW_s]; rfl)) (lI1 (by first | with_reducible rfl | (rw [gonW_s]; rfl)) (lI1 (by first | with_reducible rfl | (rw [gonW_s]; rfl)) (lI1 (by first | with_reducible rfl | (rw [gonW_s]; rfl)) rfl))))) rfl (by rfl)
  exact WP.cg (lp5 (k - (0)) (0) I (by omega) KpS.rfl' (by rw [gonW_0])) (lC1 (lI1 (by first | with_reducible rfl | rw [gonW_0]) (lI1 (by first | with_reducible rfl | rw [gonW_0]) (lI1 (by first | with_reducible rfl | rw [gonW_0]) (lI1 (by first | with_reducible rfl | rw [gonW_0]) rfl))))) rfl (by rfl)
theorem m_goesOn0 {d : Nat} {K : Nat → Nat × Nat} {I : Nat → Nat → Int32} {L : Nat → Nat → Int64} {R : Nat → Nat → Option Nat} {n s : Nat} {Q : Lo → Lm → Prop} {o : RwT} {H k : Nat} (hT : TK K R n) (hdw : DWk (I 319) o H) (hk60 : k ≤ 60) (kk : ∀ J, KpS I J → J 319 = (gonW false (I 319) o H k).2 → Q (.inl (some (.int ((gonW false (I 319) o H k).1)))) (K, J, L, R, n, s)) : Ok (d + 11) 292 [.ref 318, .int (nI k), .int (nI 0)] (K, I, L, R, n, s) Q := by
  obtain ⟨-, -, hn⟩ := id hT
  refine Ok.enter (F := F_292) (ls := [.ref 318, .int (nI k), .int (nI 0), lDead, lDead]) rfl rfl ?_
  refine wp_iconst (v := nI 0) (pc' := 1) rfl rfl rfl ?_
  refine wp_istore3 (pc' := 2) rfl (by first | rfl | assumption) rfl ?_
  refine wp_iconst (v := nI 0) (pc' := 3) rfl rfl rfl ?_
  refine wp_istore4 (pc' := 5) rfl (by first | rfl | assumption) rfl ?_
  have lp5 : ∀ r (i : Nat) (J : Mem), i + r = k → KpS I J → J 319 = (gonW false (I 319) o H i).2 → WP (d + 10) F_292 5 [.ref 318, .int (nI k), .int (nI 0), .int (gonW false (I 319) o H i).1, .int (nI i)] [] (K, J, L, R, n, s) Q := by
    intro r; induction r with
    | zero =>
      intro i J hi hv0 hv1
      have hi2 : i = k := by omega
      subst hi2
      refine wp_iload4 (pc' := 7) rfl rfl ?_
      refine wp_iload1 (pc' := 8) rfl rfl ?_
      refine wp_icmpgeT rfl (nI_nlt (by omega) (by omega)) ?_
      refine wp_iload3 (pc' := 26) rfl rfl ?_
      refine wp_iret rfl rfl rfl ?_
      exact kk _ hv0 hv1
    | succ r ih =>
      intro i J hi hv0 hv1
      have hlt : i < k := by omega
      refine wp_iload4 (pc' := 7) rfl rfl ?_
      refine wp_iload1 (pc' := 8) rfl rfl ?_
      refine wp_icmpgeF (pc' := 11) rfl (nI_lt (by omega) (by omega)) rfl ?_
      refine wp_iload3 (pc' := 12) rfl rfl ?_
      refine wp_aload0 (pc' := 13) rfl rfl ?_
      refine wp_iload2 (pc' := 14) rfl rfl ?_
      refine wp_callV2 (pc' := 17) rfl rfl rfl rfl rfl (by first | exact TK.k1 hT rfl | exact TK.kk hT rfl | exact TK.r hT rfl | assumption) rfl rfl ?_
      refine m_oneDay0 (o := o) (H := H) hT (by rw [hv1]; exact DWk_gon hdw i) (fun N hN hN9 => ?_)
      rw [hv1] at hN9 ⊢
      refine Cont.v ?_
      first | refine wp_iaddN (pc' := 18) rfl (by with_reducible rfl) (by with_reducible rfl) rfl ?_ | refine wp_iadd (pc' := 18) rfl rfl ?_
      refine wp_istore3 (pc' := 19) rfl (by first | rfl | assumption) rfl ?_
      first | refine wp_iinc4 (w := nI 1) (pc' := 22) rfl rfl rfl (by with_reducible exact nI_add _ _) rfl ?_ | refine wp_iinc4 (w := nI 1) (pc' := 22) rfl rfl rfl rfl rfl ?_
      refine wp_goto rfl ?_
      exact WP.cg (ih (i + 1) N (by omega) (hv0.tr hN) (by rw [hN9, gonW_s]; rfl)) (lC1 (lI1 (by first | with_reducible rfl | (rw [gonW_s]; rfl)) (lI1 (by first | with_reducible rfl | (rw [gonW_s]; rfl)) (lI1 (by first | with_reducible rfl | (rw [gonW_s]; rfl)) (lI1 (by first | with_reducible rfl | (rw [gonW_s]; rfl)) rfl))))) rfl (by rfl)
  exact WP.cg (lp5 (k - (0)) (0) I (by omega) KpS.rfl' (by rw [gonW_0])) (lC1 (lI1 (by first | with_reducible rfl | rw [gonW_0]) (lI1 (by first | with_reducible rfl | rw [gonW_0]) (lI1 (by first | with_reducible rfl | rw [gonW_0]) (lI1 (by first | with_reducible rfl | rw [gonW_0]) rfl))))) rfl (by rfl)
