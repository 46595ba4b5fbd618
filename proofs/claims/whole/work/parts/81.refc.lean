/-! THE REFERENCE: floods, rests, the richest -/
def fldB (w : Nat → Int32) : Nat → Bool
  | 0 => false
  | i + 1 => fldB w i || decide (w (9 + 6 * i + 1) = nI 9)
theorem fldB_s {w : Nat → Int32} {i : Nat} : fldB w (i + 1) = (fldB w i || decide (w (9 + 6 * i + 1) = nI 9)) := rfl
def cutH (w : Nat → Int32) (h g : Nat) (x y : Int32) : Int32 := if x = nI 0 then (if y = nI 0 then w (159 + 4 * h + 0) - w (159 + 4 * g + 0) else w (159 + 4 * h + 0)) else (if y = nI 0 then -(lackS (Sv w) h / nI 10) else w 3 - nI 5)
abbrev rstP (w : Nat → Int32) (h g a b : Nat) : Prop := ¬ cutH w h g (nI a) (nI b) < cutH w h g (nI (1 - a)) (nI b) ∧ ¬ cutH w g h (nI b) (nI a) < cutH w g h (nI (1 - b)) (nI a)
def rstI (w : Nat → Int32) (h g a : Nat) (x : Int32) (k : Nat) : Int32 := forN (fun b x => x ||| (if rstP w h g a b then jshl (nI 1) (nI (2 * a + b)) else nI 0)) x k
def rstN (w : Nat → Int32) (h g i : Nat) : Int32 := forN (fun a x => rstI w h g a x 2) (nI 0) i
def rcF (w r : Nat → Int32) : Nat → Int32
  | 0 => -1
  | i + 1 => if r i = nI 0 then (if rcF w r i = -1 then nI i else if w (159 + 4 * tn (rcF w r i) + 2) < w (159 + 4 * i + 2) then nI i else rcF w r i) else rcF w r i
theorem rcF_s {w r : Nat → Int32} {i : Nat} : rcF w r (i + 1) = if r i = nI 0 then (if rcF w r i = -1 then nI i else if w (159 + 4 * tn (rcF w r i) + 2) < w (159 + 4 * i + 2) then nI i else rcF w r i) else rcF w r i := rfl
theorem rcF_c {w r : Nat → Int32} : ∀ i, rcF w r i = -1 ∨ ∃ b, b < i ∧ rcF w r i = nI b
  | 0 => Or.inl rfl
  | i + 1 => by
    have ih := rcF_c (w := w) (r := r) i
    have ih2 : rcF w r i = -1 ∨ ∃ b, b < i + 1 ∧ rcF w r i = nI b := ih.imp id (fun ⟨b, hb, e⟩ => ⟨b, by omega, e⟩)
    rw [rcF_s]
    split
    · split
      · exact Or.inr ⟨i, by omega, rfl⟩
      · split
        · exact Or.inr ⟨i, by omega, rfl⟩
        · exact ih2
    · exact ih2

theorem m_isFlooded {d : Nat} {K : Nat → Nat × Nat} {I : Nat → Nat → Int32} {L : Nat → Nat → Int64} {R : Nat → Nat → Option Nat} {n s : Nat} {Q : Lo → Lm → Prop}  (hT : TK K R n) (kk : Q (.inl (some (.int ((if fldB (I 319) 25 = true then nI 1 else nI 0))))) (K, I, L, R, n, s)) : Ok (d + 3) 315 [.ref 318] (K, I, L, R, n, s) Q := by
  obtain ⟨-, -, hn⟩ := id hT
  refine Ok.enter (F := F_315) (ls := [.ref 318, lDead, lDead]) rfl rfl ?_
  refine wp_iconst (v := nI 0) (pc' := 1) rfl rfl rfl ?_
  refine wp_istore1 (pc' := 2) rfl (by first | rfl | assumption) rfl ?_
  refine wp_iconst (v := nI 0) (pc' := 3) rfl rfl rfl ?_
  refine wp_istore2 (pc' := 4) rfl (by first | rfl | assumption) rfl ?_
  have lp4 : ∀ r (i : Nat), i + r = 25 → WP (d + 2) F_315 4 [.ref 318, .int (if fldB (I 319) i = true then nI 1 else nI 0), .int (nI i)] [] (K, I, L, R, n, s) Q := by
    intro r; induction r with
    | zero =>
      intro i hi 
      have hi2 : i = 25 := by omega
      subst hi2
      refine wp_iload2 (pc' := 5) rfl rfl ?_
      refine wp_bipush (v := nI 25) (pc' := 7) rfl rfl rfl ?_
      refine wp_icmpgeT rfl (nI_nlt (by omega) (by omega)) ?_
      refine wp_iload1 (pc' := 38) rfl rfl ?_
      refine wp_iret rfl rfl (by first | rfl | exact nar_if) ?_
      exact kk
    | succ r ih =>
      intro i hi 
      have hlt : i < 25 := by omega
      refine wp_iload2 (pc' := 5) rfl rfl ?_
      refine wp_bipush (v := nI 25) (pc' := 7) rfl rfl rfl ?_
      refine wp_icmpgeF (pc' := 10) rfl (nI_lt (by omega) (by omega)) rfl ?_
      refine wp_iload1 (pc' := 11) rfl rfl ?_
      first | refine wp_ifneB (pc' := 14) rfl rfl ?_ ?_ | refine wp_ifne (pc' := 14) rfl rfl ?_ ?_
      · intro h11
        refine wp_iconst (v := nI 1) (pc' := 26) rfl rfl rfl ?_
        refine wp_goto rfl ?_
        refine wp_istore1 (pc' := 31) rfl (by first | rfl | assumption) rfl ?_
        first | refine wp_iinc2 (w := nI 1) (pc' := 34) rfl rfl rfl (by with_reducible exact nI_add _ _) rfl ?_ | refine wp_iinc2 (w := nI 1) (pc' := 34) rfl rfl rfl rfl rfl ?_
        refine wp_goto rfl ?_
        exact WP.cg (ih (i + 1) (by omega)) (lC1 (lI1 (by first | with_reducible rfl | (rw [fldB_s, h11]; rfl) | (rw [fldB_s, Bool.eq_false_iff.mpr h11, decide_eq_true h22]; rfl) | (rw [fldB_s, Bool.eq_false_iff.mpr h11, decide_eq_false h22]; rfl)) (lI1 (by first | with_reducible rfl | (rw [fldB_s, h11]; rfl) | (rw [fldB_s, Bool.eq_false_iff.mpr h11, decide_eq_true h22]; rfl) | (rw [fldB_s, Bool.eq_false_iff.mpr h11, decide_eq_false h22]; rfl)) rfl))) rfl (by first | with_reducible rfl | (simp only [forN, *, ↓reduceIte, not_true_eq_false, not_false_eq_true, and_self, and_true, true_and, and_false, false_and]; done) | rfl | (simp_all [forN]; done))
      · intro h11
        refine wp_aload0 (pc' := 15) rfl rfl ?_
        refine wp_iload2 (pc' := 16) rfl rfl ?_
        refine wp_iconst (v := nI 1) (pc' := 17) rfl rfl rfl ?_
        refine wp_callV3 (pc' := 20) rfl rfl rfl rfl rfl (by first | exact TK.k1 hT rfl | exact TK.kk hT rfl | exact TK.r hT rfl | assumption) rfl rfl ?_
        refine m_of hT (by omega) (by decide) ?_
        refine Cont.v ?_
        refine wp_bipush (v := nI 9) (pc' := 22) rfl rfl rfl ?_
        refine wp_icmpne (pc' := 25) rfl rfl ?_ ?_
        · intro h22
          refine wp_iconst (v := nI 0) (pc' := 30) rfl rfl rfl ?_
          refine wp_istore1 (pc' := 31) rfl (by first | rfl | assumption) rfl ?_
          first | refine wp_iinc2 (w := nI 1) (pc' := 34) rfl rfl rfl (by with_reducible exact nI_add _ _) rfl ?_ | refine wp_iinc2 (w := nI 1) (pc' := 34) rfl rfl rfl rfl rfl ?_
          refine wp_goto rfl ?_
          exact WP.cg (ih (i + 1) (by omega)) (lC1 (lI1 (by first | with_reducible rfl | (rw [fldB_s, h11]; rfl) | (rw [fldB_s, Bool.eq_false_iff.mpr h11, decide_eq_true h22]; rfl) | (rw [fldB_s, Bool.eq_false_iff.mpr h11, decide_eq_false h22]; rfl)) (lI1 (by first | with_reducible rfl | (rw [fldB_s, h11]; rfl) | (rw [fldB_s, Bool.eq_false_iff.mpr h11, decide_eq_true h22]; rfl) | (rw [fldB_s, Bool.eq_false_iff.mpr h11, decide_eq_false h22]; rfl)) rfl))) rfl (by first | with_reducible rfl | (simp only [forN, *, ↓reduceIte, not_true_eq_false, not_false_eq_true, and_self, and_true, true_and, and_false, false_and]; done) | rfl | (simp_all [forN]; done))
        · intro h22
          refine wp_iconst (v := nI 1) (pc' := 26) rfl rfl rfl ?_
          refine wp_goto rfl ?_
          refine wp_istore1 (pc' := 31) rfl (by first | rfl | assumption) rfl ?_
          first | refine wp_iinc2 (w := nI 1) (pc' := 34) rfl rfl rfl (by with_reducible exact nI_add _ _) rfl ?_ | refine wp_iinc2 (w := nI 1) (pc' := 34) rfl rfl rfl rfl rfl ?_
          refine wp_goto rfl ?_
          exact WP.cg (ih (i + 1) (by omega)) (lC1 (lI1 (by first | with_reducible rfl | (rw [fldB_s, h11]; rfl) | (rw [fldB_s, Bool.eq_false_iff.mpr h11, decide_eq_true h22]; rfl) | (rw [fldB_s, Bool.eq_false_iff.mpr h11, decide_eq_false h22]; rfl)) (lI1 (by first | with_reducible rfl | (rw [fldB_s, h11]; rfl) | (rw [fldB_s, Bool.eq_false_iff.mpr h11, decide_eq_true h22]; rfl) | (rw [fldB_s, Bool.eq_false_iff.mpr h11, decide_eq_false h22]; rfl)) rfl))) rfl (by first | with_reducible rfl | (simp only [forN, *, ↓reduceIte, not_true_eq_false, not_false_eq_true, and_self, and_true, true_and, and_false, false_and]; done) | rfl | (simp_all [forN]; done))
  exact WP.cg (lp4 (25 - (0)) (0) (by omega)) (lC1 (lI1 (by rfl) (lI1 (by rfl) rfl))) rfl (by first | with_reducible rfl | (simp only [forN, *, ↓reduceIte, not_true_eq_false, not_false_eq_true, and_self, and_true, true_and, and_false, false_and]; done) | rfl | (simp_all [forN]; done))
theorem m_flood {d : Nat} {K : Nat → Nat × Nat} {I : Nat → Nat → Int32} {L : Nat → Nat → Int64} {R : Nat → Nat → Option Nat} {n s : Nat} {Q : Lo → Lm → Prop}  (hT : TK K R n) {o : RwT} {H : Nat} (hdw : DWk (I 319) o H) (kk : ∀ J, AskJ I J → Q (.inl (some (.int (frsW (fun i => fldB (gonW true (I 319) o H i).2 25 = true) 61)))) (K, J, L, R, n, s)) : Ok (d + 11) 314 [.ref 318] (K, I, L, R, n, s) Q := by
  obtain ⟨-, -, hn⟩ := id hT
  refine Ok.enter (F := F_314) (ls := [.ref 318, lDead, lDead]) rfl rfl ?_
  refine wp_aload0 (pc' := 1) rfl rfl ?_
  refine wp_iconst (v := nI 0) (pc' := 2) rfl rfl rfl ?_
  refine wp_putI (pc' := 5) rfl rfl (by first | exact TK.k1 hT rfl | exact TK.kk hT rfl | exact TK.r hT rfl | assumption) (by omega) rfl ?_
  obtain ⟨M, hM⟩ : ∃ M, M = up2 I 318 0 (nI 0) := ⟨_, rfl⟩
  have hM9 : M 319 = I 319 := by rw [hM]; exact up2_row (by decide)
  have hM7 : M 318 7 = I 318 7 := by rw [hM, up2_same, if_neg (by decide)]
  rw [← hM]
  refine wp_aload0 (pc' := 6) rfl rfl ?_
  refine wp_callV1 (pc' := 9) rfl rfl rfl rfl rfl (by first | exact TK.k1 hT rfl | exact TK.kk hT rfl | exact TK.r hT rfl | assumption) rfl rfl ?_
  refine m_keepsAll hT ?_
  rw [hM9]
  obtain ⟨N, hN⟩ : ∃ N, N = upr M 322 (cpy 483 (I 319) (M 322)) := ⟨_, rfl⟩
  have hN9 : N 319 = I 319 := by rw [hN, upr_ne (by decide)]; exact hM9
  have hN2 : N 322 = cpy 483 (I 319) (M 322) := by rw [hN, upr_same]
  rw [← hN]
  refine Cont.u ?_
  refine wp_iconst (v := (-1)) (pc' := 10) rfl rfl rfl ?_
  refine wp_istore1 (pc' := 11) rfl (by first | rfl | assumption) rfl ?_
  refine wp_iconst (v := nI 0) (pc' := 12) rfl rfl rfl ?_
  refine wp_istore2 (pc' := 13) rfl (by first | rfl | assumption) rfl ?_
  have lp13 : ∀ r (i : Nat) (J : Mem) (y : Int32), i + r = 61 → KpS N J → J 319 = (gonW true (I 319) o H i).2 → frsW (fun i => fldB (gonW true (I 319) o H i).2 25 = true) i = y → WP (d + 10) F_314 13 [.ref 318, .int y, .int (nI i)] [] (K, J, L, R, n, s) Q := by
    intro r; induction r with
    | zero =>
      intro i J y hi hv0 hv1 hv2
      have hi2 : i = 61 := by omega
      subst hi2
      refine wp_iload2 (pc' := 14) rfl rfl ?_
      refine wp_bipush (v := nI 60) (pc' := 16) rfl rfl rfl ?_
      refine wp_icmpgtT rfl (nI_lt (by omega) (by omega)) ?_
      refine wp_aload0 (pc' := 50) rfl rfl ?_
      refine wp_callV1 (pc' := 53) rfl rfl rfl rfl rfl (by first | exact TK.k1 hT rfl | exact TK.kk hT rfl | exact TK.r hT rfl | assumption) rfl rfl ?_
      refine m_bringsBack hT ?_
      rw [hv1, hv0 322 (by omega), hN2, cpy_back (gon_hi hdw _)]
      refine Cont.u ?_
      refine wp_iload1 (pc' := 54) rfl rfl ?_
      refine wp_iret rfl rfl rfl ?_
      rw [hN, hM] at hv0
      first | exact Qv (kk _ (ask_mk (hv0.upr (b := 319) (by omega)) upr_same)) (by rw [← hv2]; exact (frsW_stay (by rw [hv2]; exact h21) (by omega)).symm) rfl | exact Qv (kk _ (ask_mk (hv0.upr (b := 319) (by omega)) upr_same)) hv2.symm rfl
    | succ r ih =>
      intro i J y hi hv0 hv1 hv2
      have hlt : i < 61 := by omega
      refine wp_iload2 (pc' := 14) rfl rfl ?_
      refine wp_bipush (v := nI 60) (pc' := 16) rfl rfl rfl ?_
      refine wp_icmpgtF (pc' := 19) rfl (nI_nlt (by omega) (by omega)) rfl ?_
      refine wp_iload1 (pc' := 20) rfl rfl ?_
      refine wp_iconst (v := (-1)) (pc' := 21) rfl rfl rfl ?_
      refine wp_icmpne (pc' := 24) rfl rfl ?_ ?_
      · intro h21
        refine wp_aload0 (pc' := 50) rfl rfl ?_
        refine wp_callV1 (pc' := 53) rfl rfl rfl rfl rfl (by first | exact TK.k1 hT rfl | exact TK.kk hT rfl | exact TK.r hT rfl | assumption) rfl rfl ?_
        refine m_bringsBack hT ?_
        rw [hv1, hv0 322 (by omega), hN2, cpy_back (gon_hi hdw _)]
        refine Cont.u ?_
        refine wp_iload1 (pc' := 54) rfl rfl ?_
        refine wp_iret rfl rfl rfl ?_
        rw [hN, hM] at hv0
        first | exact Qv (kk _ (ask_mk (hv0.upr (b := 319) (by omega)) upr_same)) (by rw [← hv2]; exact (frsW_stay (by rw [hv2]; exact h21) (by omega)).symm) rfl | exact Qv (kk _ (ask_mk (hv0.upr (b := 319) (by omega)) upr_same)) hv2.symm rfl
      · intro h21
        refine wp_aload0 (pc' := 25) rfl rfl ?_
        refine wp_callV1 (pc' := 28) rfl rfl rfl rfl rfl (by first | exact TK.k1 hT rfl | exact TK.kk hT rfl | exact TK.r hT rfl | assumption) rfl rfl ?_
        refine m_isFlooded hT ?_
        rw [hv1]
        refine Cont.v ?_
        first | refine wp_ifeqB (pc' := 31) rfl rfl ?_ ?_ | refine wp_ifeq (pc' := 31) rfl rfl ?_ ?_
        · intro h28
          refine wp_iconst (v := (-1)) (pc' := 36) rfl rfl rfl ?_
          refine wp_istore1 (pc' := 37) rfl (by first | rfl | assumption) rfl ?_
          refine wp_aload0 (pc' := 38) rfl rfl ?_
          refine wp_iconst (v := nI 1) (pc' := 39) rfl rfl rfl ?_
          refine wp_callV2 (pc' := 42) rfl rfl rfl rfl rfl (by first | exact TK.k1 hT rfl | exact TK.kk hT rfl | exact TK.r hT rfl | assumption) rfl rfl ?_
          refine m_oneDay1 (o := o) (H := H) hT (by rw [hv1]; exact DWk_gon hdw i) (fun X hX hX9 => ?_)
          rw [hv1] at hX9 ⊢
          refine Cont.v ?_
          refine wp_pop (pc' := 43) rfl rfl rfl ?_
          first | refine wp_iinc2 (w := nI 1) (pc' := 46) rfl rfl rfl (by with_reducible exact nI_add _ _) rfl ?_ | refine wp_iinc2 (w := nI 1) (pc' := 46) rfl rfl rfl rfl rfl ?_
          refine wp_goto rfl ?_
          exact WP.cg (ih (i + 1) X (frsW (fun i => fldB (gonW true (I 319) o H i).2 25 = true) (i + 1)) (by omega) (hv0.tr hX) (by rw [hX9, gonW_s]; rfl) rfl) (lC1 (lI1 (by first | with_reducible rfl | (rw [frsW_s, if_pos (hv2.trans h21)]; first | exact (if_pos h28).symm | exact (if_neg h28).symm)) (lI1 (by first | with_reducible rfl | (rw [frsW_s, if_pos (hv2.trans h21)]; first | exact (if_pos h28).symm | exact (if_neg h28).symm)) rfl))) rfl (by rfl)
        · intro h28
          refine wp_iload2 (pc' := 32) rfl rfl ?_
          refine wp_goto rfl ?_
          refine wp_istore1 (pc' := 37) rfl (by first | rfl | assumption) rfl ?_
          refine wp_aload0 (pc' := 38) rfl rfl ?_
          refine wp_iconst (v := nI 1) (pc' := 39) rfl rfl rfl ?_
          refine wp_callV2 (pc' := 42) rfl rfl rfl rfl rfl (by first | exact TK.k1 hT rfl | exact TK.kk hT rfl | exact TK.r hT rfl | assumption) rfl rfl ?_
          refine m_oneDay1 (o := o) (H := H) hT (by rw [hv1]; exact DWk_gon hdw i) (fun X hX hX9 => ?_)
          rw [hv1] at hX9 ⊢
          refine Cont.v ?_
          refine wp_pop (pc' := 43) rfl rfl rfl ?_
          first | refine wp_iinc2 (w := nI 1) (pc' := 46) rfl rfl rfl (by with_reducible exact nI_add _ _) rfl ?_ | refine wp_iinc2 (w := nI 1) (pc' := 46) rfl rfl rfl rfl rfl ?_
          refine wp_goto rfl ?_
          exact WP.cg (ih (i + 1) X (frsW (fun i => fldB (gonW true (I 319) o H i).2 25 = true) (i + 1)) (by omega) (hv0.tr hX) (by rw [hX9, gonW_s]; rfl) rfl) (lC1 (lI1 (by first | with_reducible rfl | (rw [frsW_s, if_pos (hv2.trans h21)]; first | exact (if_pos h28).symm | exact (if_neg h28).symm)) (lI1 (by first | with_reducible rfl | (rw [frsW_s, if_pos (hv2.trans h21)]; first | exact (if_pos h28).symm | exact (if_neg h28).symm)) rfl))) rfl (by rfl)
  exact WP.cg (lp13 (61 - (0)) (0) N (-1) (by omega) KpS.rfl' hN9 rfl) (lC1 (lI1 (by first | with_reducible rfl | rfl) (lI1 (by first | with_reducible rfl | rfl) rfl))) rfl (by rfl)
theorem m_cutterHas {d : Nat} {K : Nat → Nat × Nat} {I : Nat → Nat → Int32} {L : Nat → Nat → Int64} {R : Nat → Nat → Option Nat} {n s : Nat} {Q : Lo → Lm → Prop} {h g : Nat} {x y : Int32} (hT : TK K R n) (hh : h < 6) (hg : g < 6) (kk : Q (.inl (some (.int (cutH (I 319) h g x y)))) (K, I, L, R, n, s)) : Ok (d + 4) 349 [.ref 318, .int (nI h), .int (nI g), .int x, .int y] (K, I, L, R, n, s) Q := by
  obtain ⟨-, -, hn⟩ := id hT
  refine Ok.enter (F := F_349) (ls := [.ref 318, .int (nI h), .int (nI g), .int x, .int y]) rfl rfl ?_
  refine wp_iload3 (pc' := 1) rfl rfl ?_
  first | refine wp_ifneB (pc' := 4) rfl rfl ?_ ?_ | refine wp_ifne (pc' := 4) rfl rfl ?_ ?_
  · intro h1
    refine wp_iload4 (pc' := 34) rfl rfl ?_
    first | refine wp_ifneB (pc' := 37) rfl rfl ?_ ?_ | refine wp_ifne (pc' := 37) rfl rfl ?_ ?_
    · intro h34
      refine wp_aload0 (pc' := 50) rfl rfl ?_
      refine wp_getRF (pc' := 53) rfl rfl (by first | exact TK.k1 hT rfl | exact TK.kk hT rfl | exact TK.r hT rfl | assumption) (by first | exact TK.k1 hT rfl | exact TK.kk hT rfl | exact TK.r hT rfl | assumption) rfl ?_
      refine wp_iconst (v := nI 3) (pc' := 54) rfl rfl rfl ?_
      refine wp_iald _ (pc' := 55) rfl (by first | exact TK.k1 hT rfl | exact TK.kk hT rfl | exact TK.r hT rfl | assumption) (by with_reducible rfl) (by omega) (by first | decide | assumption | omega) rfl ?_
      refine wp_iconst (v := nI 5) (pc' := 56) rfl rfl rfl ?_
      first | refine wp_isubN (pc' := 57) rfl (by with_reducible rfl) (by with_reducible rfl) (by omega) rfl ?_ | refine wp_isub (pc' := 57) rfl rfl ?_
      refine wp_iret rfl rfl rfl ?_
      exact Qv kk (by first | rfl | (simp +decide only [cutH, *, ↓reduceIte, and_self, and_true, true_and, and_false, false_and, not_true_eq_false, not_false_eq_true]; done) | (simp_all [cutH]; done)) rfl
    · intro h34
      refine wp_aload0 (pc' := 38) rfl rfl ?_
      refine wp_iload1 (pc' := 39) rfl rfl ?_
      refine wp_callV2 (pc' := 42) rfl rfl rfl rfl rfl (by first | exact TK.k1 hT rfl | exact TK.kk hT rfl | exact TK.r hT rfl | assumption) rfl rfl ?_
      refine m_lacksOf hT hh ?_
      refine Cont.v ?_
      refine wp_bipush (v := nI 10) (pc' := 44) rfl rfl rfl ?_
      first | refine wp_idivN (pc' := 45) rfl (by with_reducible rfl) (by with_reducible rfl) (by omega) (by omega) (by omega) rfl ?_ | refine wp_idiv (pc' := 45) rfl (by decide) rfl ?_
      refine wp_ineg (pc' := 46) rfl rfl ?_
      refine wp_goto rfl ?_
      refine wp_iret rfl rfl rfl ?_
      exact Qv kk (by first | rfl | (simp +decide only [cutH, *, ↓reduceIte, and_self, and_true, true_and, and_false, false_and, not_true_eq_false, not_false_eq_true]; done) | (simp_all [cutH]; done)) rfl
  · intro h1
    refine wp_iload4 (pc' := 6) rfl rfl ?_
    first | refine wp_ifneB (pc' := 9) rfl rfl ?_ ?_ | refine wp_ifne (pc' := 9) rfl rfl ?_ ?_
    · intro h6
      refine wp_aload0 (pc' := 26) rfl rfl ?_
      refine wp_iload1 (pc' := 27) rfl rfl ?_
      refine wp_iconst (v := nI 0) (pc' := 28) rfl rfl rfl ?_
      refine wp_callV3 (pc' := 31) rfl rfl rfl rfl rfl (by first | exact TK.k1 hT rfl | exact TK.kk hT rfl | exact TK.r hT rfl | assumption) rfl rfl ?_
      refine m_ofH hT hh (by decide) ?_
      refine Cont.v ?_
      refine wp_iret rfl rfl rfl ?_
      exact Qv kk (by first | rfl | (simp +decide only [cutH, *, ↓reduceIte, and_self, and_true, true_and, and_false, false_and, not_true_eq_false, not_false_eq_true]; done) | (simp_all [cutH]; done)) rfl
    · intro h6
      refine wp_aload0 (pc' := 10) rfl rfl ?_
      refine wp_iload1 (pc' := 11) rfl rfl ?_
      refine wp_iconst (v := nI 0) (pc' := 12) rfl rfl rfl ?_
      refine wp_callV3 (pc' := 15) rfl rfl rfl rfl rfl (by first | exact TK.k1 hT rfl | exact TK.kk hT rfl | exact TK.r hT rfl | assumption) rfl rfl ?_
      refine m_ofH hT hh (by decide) ?_
      refine Cont.v ?_
      refine wp_aload0 (pc' := 16) rfl rfl ?_
      refine wp_iload2 (pc' := 17) rfl rfl ?_
      refine wp_iconst (v := nI 0) (pc' := 18) rfl rfl rfl ?_
      refine wp_callV3 (pc' := 21) rfl rfl rfl rfl rfl (by first | exact TK.k1 hT rfl | exact TK.kk hT rfl | exact TK.r hT rfl | assumption) rfl rfl ?_
      refine m_ofH hT hg (by decide) ?_
      refine Cont.v ?_
      first | refine wp_isubN (pc' := 22) rfl (by with_reducible rfl) (by with_reducible rfl) (by omega) rfl ?_ | refine wp_isub (pc' := 22) rfl rfl ?_
      refine wp_goto rfl ?_
      refine wp_iret rfl rfl rfl ?_
      exact Qv kk (by first | rfl | (simp +decide only [cutH, *, ↓reduceIte, and_self, and_true, true_and, and_false, false_and, not_true_eq_false, not_false_eq_true]; done) | (simp_all [cutH]; done)) rfl
theorem m_rests {d : Nat} {K : Nat → Nat × Nat} {I : Nat → Nat → Int32} {L : Nat → Nat → Int64} {R : Nat → Nat → Option Nat} {n s : Nat} {Q : Lo → Lm → Prop} {h g : Nat} (hT : TK K R n) {H : Nat} (hw : I 319 0 = nI H) (hH6 : H ≤ 6) (hh : h < H) (hg : g < H) (hne : ¬ h = g) (kk : Q (.inl (some (.int (rstN (I 319) h g 2)))) (K, up2 I 318 0 (nI 0), L, R, n, s)) : Ok (d + 5) 348 [.ref 318, .int (nI h), .int (nI g)] (K, I, L, R, n, s) Q := by
  obtain ⟨-, -, hn⟩ := id hT
  refine Ok.enter (F := F_348) (ls := [.ref 318, .int (nI h), .int (nI g), lDead, lDead, lDead]) rfl rfl ?_
  refine wp_aload0 (pc' := 1) rfl rfl ?_
  refine wp_iconst (v := nI 0) (pc' := 2) rfl rfl rfl ?_
  refine wp_putI (pc' := 5) rfl rfl (by first | exact TK.k1 hT rfl | exact TK.kk hT rfl | exact TK.r hT rfl | assumption) (by omega) rfl ?_
  obtain ⟨M, hM⟩ : ∃ M, M = up2 I 318 0 (nI 0) := ⟨_, rfl⟩
  have hM9 : M 319 = I 319 := by rw [hM]; exact up2_row (by decide)
  have hM7 : M 318 7 = I 318 7 := by rw [hM, up2_same, if_neg (by decide)]
  rw [← hM]
  refine wp_aload0 (pc' := 6) rfl rfl ?_
  refine wp_aload0 (pc' := 7) rfl rfl ?_
  refine wp_iload1 (pc' := 8) rfl rfl ?_
  refine wp_callV2 (pc' := 11) rfl rfl rfl rfl rfl (by first | exact TK.k1 hT rfl | exact TK.kk hT rfl | exact TK.r hT rfl | assumption) rfl rfl ?_
  refine m_noH1 hT (by rw [hM9]; exact hw) hH6 hh ?_
  refine Cont.v ?_
  refine wp_ifneF (pc' := 14) rfl rfl rfl ?_
  refine wp_aload0 (pc' := 15) rfl rfl ?_
  refine wp_iload2 (pc' := 16) rfl rfl ?_
  refine wp_callV2 (pc' := 19) rfl rfl rfl rfl rfl (by first | exact TK.k1 hT rfl | exact TK.kk hT rfl | exact TK.r hT rfl | assumption) rfl rfl ?_
  refine m_noH1 hT (by rw [hM9]; exact hw) hH6 hg ?_
  refine Cont.v ?_
  refine wp_ifeqT rfl rfl ?_
  refine wp_iconst (v := nI 0) (pc' := 27) rfl rfl rfl ?_
  refine wp_iconst (v := nI 1) (pc' := 28) rfl rfl rfl ?_
  refine wp_callV3 (pc' := 31) rfl rfl rfl rfl rfl (by first | exact TK.k1 hT rfl | exact TK.kk hT rfl | exact TK.r hT rfl | assumption) rfl rfl ?_
  refine m_tfN hT ?_
  refine Cont.v ?_
  refine wp_ifneF (pc' := 34) rfl rfl rfl ?_
  refine wp_aload0 (pc' := 35) rfl rfl ?_
  refine wp_iload1 (pc' := 36) rfl rfl ?_
  refine wp_iload2 (pc' := 37) rfl rfl ?_
  refine wp_icmpneT rfl (fun q => hne ((nI_eq (by omega) (by omega)).mp q)) ?_
  refine wp_iconst (v := nI 0) (pc' := 45) rfl rfl rfl ?_
  refine wp_iconst (v := nI 2) (pc' := 46) rfl rfl rfl ?_
  refine wp_callV3 (pc' := 49) rfl rfl rfl rfl rfl (by first | exact TK.k1 hT rfl | exact TK.kk hT rfl | exact TK.r hT rfl | assumption) rfl rfl ?_
  refine m_tfN hT ?_
  refine Cont.v ?_
  refine wp_ifeqT rfl rfl ?_
  refine wp_iconst (v := nI 0) (pc' := 55) rfl rfl rfl ?_
  refine wp_istore3 (pc' := 56) rfl (by first | rfl | assumption) rfl ?_
  refine wp_iconst (v := nI 0) (pc' := 57) rfl rfl rfl ?_
  refine wp_istore4 (pc' := 59) rfl (by first | rfl | assumption) rfl ?_
  have lp59 : ∀ r (i : Nat) (v5 : Value), i + r = 2 → isL v5 = false → WP (d + 4) F_348 59 [.ref 318, .int (nI h), .int (nI g), .int (rstN (I 319) h g i), .int (nI i), v5] [] (K, M, L, R, n, s) Q := by
    intro r; induction r with
    | zero =>
      intro i v5 hi hv0
      have hi2 : i = 2 := by omega
      subst hi2
      refine wp_iload4 (pc' := 61) rfl rfl ?_
      refine wp_iconst (v := nI 2) (pc' := 62) rfl rfl rfl ?_
      refine wp_icmpgeT rfl (nI_nlt (by omega) (by omega)) ?_
      refine wp_iload3 (pc' := 153) rfl rfl ?_
      refine wp_iret rfl rfl rfl ?_
      rw [hM]
      exact kk
    | succ r ih =>
      intro i v5 hi hv0
      have hlt : i < 2 := by omega
      refine wp_iload4 (pc' := 61) rfl rfl ?_
      refine wp_iconst (v := nI 2) (pc' := 62) rfl rfl rfl ?_
      refine wp_icmpgeF (pc' := 65) rfl (nI_lt (by omega) (by omega)) rfl ?_
      refine wp_iconst (v := nI 0) (pc' := 66) rfl rfl rfl ?_
      refine wp_istore5 (pc' := 68) rfl (by first | rfl | assumption) rfl ?_
      have lp68 : ∀ rb (j : Nat), j + rb = 2 → WP (d + 4) F_348 68 [.ref 318, .int (nI h), .int (nI g), .int (rstI (I 319) h g i (rstN (I 319) h g i) j), .int (nI i), .int (nI j)] [] (K, M, L, R, n, s) Q := by
        intro rb; induction rb with
        | zero =>
          intro j hib 
          have hi2b : j = 2 := by omega
          subst hi2b
          refine wp_iload5 (pc' := 70) rfl rfl ?_
          refine wp_iconst (v := nI 2) (pc' := 71) rfl rfl rfl ?_
          refine wp_icmpgeT rfl (nI_nlt (by omega) (by omega)) ?_
          first | refine wp_iinc4 (w := nI 1) (pc' := 149) rfl rfl rfl (by with_reducible exact nI_add _ _) rfl ?_ | refine wp_iinc4 (w := nI 1) (pc' := 149) rfl rfl rfl rfl rfl ?_
          refine wp_goto rfl ?_
          exact WP.cg (ih (i + 1) _ (by omega) (by first | rfl | assumption)) (lC1 (lI1 (by first | with_reducible rfl | rfl) (lI1 (by first | with_reducible rfl | rfl) (lI1 (by first | with_reducible rfl | rfl) (lI1 (by first | with_reducible rfl | rfl) (lC1 rfl)))))) rfl (by rfl)
        | succ rb ihb =>
          intro j hib 
          have hltb : j < 2 := by omega
          refine wp_iload5 (pc' := 70) rfl rfl ?_
          refine wp_iconst (v := nI 2) (pc' := 71) rfl rfl rfl ?_
          refine wp_icmpgeF (pc' := 74) rfl (nI_lt (by omega) (by omega)) rfl ?_
          refine wp_iload3 (pc' := 75) rfl rfl ?_
          refine wp_aload0 (pc' := 76) rfl rfl ?_
          refine wp_iload1 (pc' := 77) rfl rfl ?_
          refine wp_iload2 (pc' := 78) rfl rfl ?_
          refine wp_iload4 (pc' := 80) rfl rfl ?_
          refine wp_iload5 (pc' := 82) rfl rfl ?_
          refine wp_callV5 (pc' := 85) rfl rfl rfl rfl rfl (by first | exact TK.k1 hT rfl | exact TK.kk hT rfl | exact TK.r hT rfl | assumption) rfl rfl ?_
          refine m_cutterHas hT (by omega) (by omega) ?_
          rw [hM9]
          refine Cont.v ?_
          refine wp_aload0 (pc' := 86) rfl rfl ?_
          refine wp_iload1 (pc' := 87) rfl rfl ?_
          refine wp_iload2 (pc' := 88) rfl rfl ?_
          refine wp_iconst (v := nI 1) (pc' := 89) rfl rfl rfl ?_
          refine wp_iload4 (pc' := 91) rfl rfl ?_
          first | refine wp_isubN (pc' := 92) rfl (by with_reducible rfl) (by with_reducible rfl) (by omega) rfl ?_ | refine wp_isub (pc' := 92) rfl rfl ?_
          refine wp_iload5 (pc' := 94) rfl rfl ?_
          refine wp_callV5 (pc' := 97) rfl rfl rfl rfl rfl (by first | exact TK.k1 hT rfl | exact TK.kk hT rfl | exact TK.r hT rfl | assumption) rfl rfl ?_
          refine m_cutterHas hT (by omega) (by omega) ?_
          rw [hM9]
          refine Cont.v ?_
          refine wp_icmplt (pc' := 100) rfl rfl ?_ ?_
          · intro h97
            refine wp_iconst (v := nI 0) (pc' := 138) rfl rfl rfl ?_
            refine wp_ior (pc' := 139) rfl rfl ?_
            refine wp_istore3 (pc' := 140) rfl (by first | rfl | assumption) rfl ?_
            first | refine wp_iinc5 (w := nI 1) (pc' := 143) rfl rfl rfl (by with_reducible exact nI_add _ _) rfl ?_ | refine wp_iinc5 (w := nI 1) (pc' := 143) rfl rfl rfl rfl rfl ?_
            refine wp_goto rfl ?_
            exact WP.cg (ihb (j + 1) (by omega)) (lC1 (lI1 (by first | with_reducible rfl | (show _ = forN _ _ (j + 1); rw [forN, if_pos (show rstP (I 319) h g i j from And.intro h97 h122)]; rfl) | (show _ = forN _ _ (j + 1); rw [forN, if_neg (show ¬ rstP (I 319) h g i j from fun q => q.1 h97)]; rfl) | (show _ = forN _ _ (j + 1); rw [forN, if_neg (show ¬ rstP (I 319) h g i j from fun q => q.2 h122)]; rfl)) (lI1 (by first | with_reducible rfl | (show _ = forN _ _ (j + 1); rw [forN, if_pos (show rstP (I 319) h g i j from And.intro h97 h122)]; rfl) | (show _ = forN _ _ (j + 1); rw [forN, if_neg (show ¬ rstP (I 319) h g i j from fun q => q.1 h97)]; rfl) | (show _ = forN _ _ (j + 1); rw [forN, if_neg (show ¬ rstP (I 319) h g i j from fun q => q.2 h122)]; rfl)) (lI1 (by first | with_reducible rfl | (show _ = forN _ _ (j + 1); rw [forN, if_pos (show rstP (I 319) h g i j from And.intro h97 h122)]; rfl) | (show _ = forN _ _ (j + 1); rw [forN, if_neg (show ¬ rstP (I 319) h g i j from fun q => q.1 h97)]; rfl) | (show _ = forN _ _ (j + 1); rw [forN, if_neg (show ¬ rstP (I 319) h g i j from fun q => q.2 h122)]; rfl)) (lI1 (by first | with_reducible rfl | (show _ = forN _ _ (j + 1); rw [forN, if_pos (show rstP (I 319) h g i j from And.intro h97 h122)]; rfl) | (show _ = forN _ _ (j + 1); rw [forN, if_neg (show ¬ rstP (I 319) h g i j from fun q => q.1 h97)]; rfl) | (show _ = forN _ _ (j + 1); rw [forN, if_neg (show ¬ rstP (I 319) h g i j from fun q => q.2 h122)]; rfl)) (lI1 (by first | with_reducible rfl | (show _ = forN _ _ (j + 1); rw [forN, if_pos (show rstP (I 319) h g i j from And.intro h97 h122)]; rfl) | (show _ = forN _ _ (j + 1); rw [forN, if_neg (show ¬ rstP (I 319) h g i j from fun q => q.1 h97)]; rfl) | (show _ = forN _ _ (j + 1); rw [forN, if_neg (show ¬ rstP (I 319) h g i j from fun q => q.2 h122)]; rfl)) rfl)))))) rfl (by rfl)
          · intro h97
            refine wp_aload0 (pc' := 101) rfl rfl ?_
            refine wp_iload2 (pc' := 102) rfl rfl ?_
            refine wp_iload1 (pc' := 103) rfl rfl ?_
            refine wp_iload5 (pc' := 105) rfl rfl ?_
            refine wp_iload4 (pc' := 107) rfl rfl ?_
            refine wp_callV5 (pc' := 110) rfl rfl rfl rfl rfl (by first | exact TK.k1 hT rfl | exact TK.kk hT rfl | exact TK.r hT rfl | assumption) rfl rfl ?_
            refine m_cutterHas hT (by omega) (by omega) ?_
            rw [hM9]
            refine Cont.v ?_
            refine wp_aload0 (pc' := 111) rfl rfl ?_
            refine wp_iload2 (pc' := 112) rfl rfl ?_
            refine wp_iload1 (pc' := 113) rfl rfl ?_
            refine wp_iconst (v := nI 1) (pc' := 114) rfl rfl rfl ?_
            refine wp_iload5 (pc' := 116) rfl rfl ?_
            first | refine wp_isubN (pc' := 117) rfl (by with_reducible rfl) (by with_reducible rfl) (by omega) rfl ?_ | refine wp_isub (pc' := 117) rfl rfl ?_
            refine wp_iload4 (pc' := 119) rfl rfl ?_
            refine wp_callV5 (pc' := 122) rfl rfl rfl rfl rfl (by first | exact TK.k1 hT rfl | exact TK.kk hT rfl | exact TK.r hT rfl | assumption) rfl rfl ?_
            refine m_cutterHas hT (by omega) (by omega) ?_
            rw [hM9]
            refine Cont.v ?_
            refine wp_icmplt (pc' := 125) rfl rfl ?_ ?_
            · intro h122
              refine wp_iconst (v := nI 0) (pc' := 138) rfl rfl rfl ?_
              refine wp_ior (pc' := 139) rfl rfl ?_
              refine wp_istore3 (pc' := 140) rfl (by first | rfl | assumption) rfl ?_
              first | refine wp_iinc5 (w := nI 1) (pc' := 143) rfl rfl rfl (by with_reducible exact nI_add _ _) rfl ?_ | refine wp_iinc5 (w := nI 1) (pc' := 143) rfl rfl rfl rfl rfl ?_
              refine wp_goto rfl ?_
              exact WP.cg (ihb (j + 1) (by omega)) (lC1 (lI1 (by first | with_reducible rfl | (show _ = forN _ _ (j + 1); rw [forN, if_pos (show rstP (I 319) h g i j from And.intro h97 h122)]; rfl) | (show _ = forN _ _ (j + 1); rw [forN, if_neg (show ¬ rstP (I 319) h g i j from fun q => q.1 h97)]; rfl) | (show _ = forN _ _ (j + 1); rw [forN, if_neg (show ¬ rstP (I 319) h g i j from fun q => q.2 h122)]; rfl)) (lI1 (by first | with_reducible rfl | (show _ = forN _ _ (j + 1); rw [forN, if_pos (show rstP (I 319) h g i j from And.intro h97 h122)]; rfl) | (show _ = forN _ _ (j + 1); rw [forN, if_neg (show ¬ rstP (I 319) h g i j from fun q => q.1 h97)]; rfl) | (show _ = forN _ _ (j + 1); rw [forN, if_neg (show ¬ rstP (I 319) h g i j from fun q => q.2 h122)]; rfl)) (lI1 (by first | with_reducible rfl | (show _ = forN _ _ (j + 1); rw [forN, if_pos (show rstP (I 319) h g i j from And.intro h97 h122)]; rfl) | (show _ = forN _ _ (j + 1); rw [forN, if_neg (show ¬ rstP (I 319) h g i j from fun q => q.1 h97)]; rfl) | (show _ = forN _ _ (j + 1); rw [forN, if_neg (show ¬ rstP (I 319) h g i j from fun q => q.2 h122)]; rfl)) (lI1 (by first | with_reducible rfl | (show _ = forN _ _ (j + 1); rw [forN, if_pos (show rstP (I 319) h g i j from And.intro h97 h122)]; rfl) | (show _ = forN _ _ (j + 1); rw [forN, if_neg (show ¬ rstP (I 319) h g i j from fun q => q.1 h97)]; rfl) | (show _ = forN _ _ (j + 1); rw [forN, if_neg (show ¬ rstP (I 319) h g i j from fun q => q.2 h122)]; rfl)) (lI1 (by first | with_reducible rfl | (show _ = forN _ _ (j + 1); rw [forN, if_pos (show rstP (I 319) h g i j from And.intro h97 h122)]; rfl) | (show _ = forN _ _ (j + 1); rw [forN, if_neg (show ¬ rstP (I 319) h g i j from fun q => q.1 h97)]; rfl) | (show _ = forN _ _ (j + 1); rw [forN, if_neg (show ¬ rstP (I 319) h g i j from fun q => q.2 h122)]; rfl)) rfl)))))) rfl (by rfl)
            · intro h122
              refine wp_iconst (v := nI 1) (pc' := 126) rfl rfl rfl ?_
              refine wp_iconst (v := nI 2) (pc' := 127) rfl rfl rfl ?_
              refine wp_iload4 (pc' := 129) rfl rfl ?_
              first | refine wp_imulN (pc' := 130) rfl (by with_reducible rfl) (by with_reducible rfl) rfl ?_ | refine wp_imul (pc' := 130) rfl rfl ?_
              refine wp_iload5 (pc' := 132) rfl rfl ?_
              first | refine wp_iaddN (pc' := 133) rfl (by with_reducible rfl) (by with_reducible rfl) rfl ?_ | refine wp_iadd (pc' := 133) rfl rfl ?_
              refine wp_ishl (pc' := 134) rfl rfl ?_
              refine wp_goto rfl ?_
              refine wp_ior (pc' := 139) rfl rfl ?_
              refine wp_istore3 (pc' := 140) rfl (by first | rfl | assumption) rfl ?_
              first | refine wp_iinc5 (w := nI 1) (pc' := 143) rfl rfl rfl (by with_reducible exact nI_add _ _) rfl ?_ | refine wp_iinc5 (w := nI 1) (pc' := 143) rfl rfl rfl rfl rfl ?_
              refine wp_goto rfl ?_
              exact WP.cg (ihb (j + 1) (by omega)) (lC1 (lI1 (by first | with_reducible rfl | (show _ = forN _ _ (j + 1); rw [forN, if_pos (show rstP (I 319) h g i j from And.intro h97 h122)]; rfl) | (show _ = forN _ _ (j + 1); rw [forN, if_neg (show ¬ rstP (I 319) h g i j from fun q => q.1 h97)]; rfl) | (show _ = forN _ _ (j + 1); rw [forN, if_neg (show ¬ rstP (I 319) h g i j from fun q => q.2 h122)]; rfl)) (lI1 (by first | with_reducible rfl | (show _ = forN _ _ (j + 1); rw [forN, if_pos (show rstP (I 319) h g i j from And.intro h97 h122)]; rfl) | (show _ = forN _ _ (j + 1); rw [forN, if_neg (show ¬ rstP (I 319) h g i j from fun q => q.1 h97)]; rfl) | (show _ = forN _ _ (j + 1); rw [forN, if_neg (show ¬ rstP (I 319) h g i j from fun q => q.2 h122)]; rfl)) (lI1 (by first | with_reducible rfl | (show _ = forN _ _ (j + 1); rw [forN, if_pos (show rstP (I 319) h g i j from And.intro h97 h122)]; rfl) | (show _ = forN _ _ (j + 1); rw [forN, if_neg (show ¬ rstP (I 319) h g i j from fun q => q.1 h97)]; rfl) | (show _ = forN _ _ (j + 1); rw [forN, if_neg (show ¬ rstP (I 319) h g i j from fun q => q.2 h122)]; rfl)) (lI1 (by first | with_reducible rfl | (show _ = forN _ _ (j + 1); rw [forN, if_pos (show rstP (I 319) h g i j from And.intro h97 h122)]; rfl) | (show _ = forN _ _ (j + 1); rw [forN, if_neg (show ¬ rstP (I 319) h g i j from fun q => q.1 h97)]; rfl) | (show _ = forN _ _ (j + 1); rw [forN, if_neg (show ¬ rstP (I 319) h g i j from fun q => q.2 h122)]; rfl)) (lI1 (by first | with_reducible rfl | (show _ = forN _ _ (j + 1); rw [forN, if_pos (show rstP (I 319) h g i j from And.intro h97 h122)]; rfl) | (show _ = forN _ _ (j + 1); rw [forN, if_neg (show ¬ rstP (I 319) h g i j from fun q => q.1 h97)]; rfl) | (show _ = forN _ _ (j + 1); rw [forN, if_neg (show ¬ rstP (I 319) h g i j from fun q => q.2 h122)]; rfl)) rfl)))))) rfl (by rfl)
      exact WP.cg (lp68 (2 - (0)) (0) (by omega)) (lC1 (lI1 (by rfl) (lI1 (by rfl) (lI1 (by rfl) (lI1 (by rfl) (lI1 (by rfl) rfl)))))) rfl (by rfl)
  exact WP.cg (lp59 (2 - (0)) (0) _ (by omega) (by first | rfl | assumption)) (lC1 (lI1 (by rfl) (lI1 (by rfl) (lI1 (by rfl) (lI1 (by rfl) (lC1 rfl)))))) rfl (by rfl)
theorem m_restsE1a {d : Nat} {K : Nat → Nat × Nat} {I : Nat → Nat → Int32} {L : Nat → Nat → Int64} {R : Nat → Nat → Option Nat} {n s : Nat} {Q : Lo → Lm → Prop} {x y : Int32} (hT : TK K R n) {H : Nat} (hw : I 319 0 = nI H) (hH6 : H ≤ 6) (hx : ¬ InR x H) (kk : Q (.inl (some (.int (nI 0)))) (K, up2 I 318 0 (nI 1), L, R, n, s)) : Ok (d + 5) 348 [.ref 318, .int x, .int y] (K, I, L, R, n, s) Q := by
  obtain ⟨-, -, hn⟩ := id hT
  refine Ok.enter (F := F_348) (ls := [.ref 318, .int x, .int y, lDead, lDead, lDead]) rfl rfl ?_
  refine wp_aload0 (pc' := 1) rfl rfl ?_
  refine wp_iconst (v := nI 0) (pc' := 2) rfl rfl rfl ?_
  refine wp_putI (pc' := 5) rfl rfl (by first | exact TK.k1 hT rfl | exact TK.kk hT rfl | exact TK.r hT rfl | assumption) (by omega) rfl ?_
  refine wp_aload0 (pc' := 6) rfl rfl ?_
  refine wp_aload0 (pc' := 7) rfl rfl ?_
  refine wp_iload1 (pc' := 8) rfl rfl ?_
  refine wp_callV2 (pc' := 11) rfl rfl rfl rfl rfl (by first | exact TK.k1 hT rfl | exact TK.kk hT rfl | exact TK.r hT rfl | assumption) rfl rfl ?_
  refine m_noH0 hT (by rw [up2_row (by decide)]; exact hw) hH6 hx ?_
  refine Cont.v ?_
  refine wp_ifneT rfl (by decide) ?_
  refine wp_iconst (v := nI 1) (pc' := 23) rfl rfl rfl ?_
  refine wp_goto rfl ?_
  refine wp_iconst (v := nI 1) (pc' := 28) rfl rfl rfl ?_
  refine wp_callV3 (pc' := 31) rfl rfl rfl rfl rfl (by first | exact TK.k1 hT rfl | exact TK.kk hT rfl | exact TK.r hT rfl | assumption) rfl rfl ?_
  refine m_tfY hT ?_
  refine Cont.v ?_
  refine wp_ifneT rfl (by decide) ?_
  refine wp_iconst (v := nI 0) (pc' := 53) rfl rfl rfl ?_
  refine wp_iret rfl rfl rfl ?_
  rw [up318]
  exact kk
theorem m_restsE1b {d : Nat} {K : Nat → Nat × Nat} {I : Nat → Nat → Int32} {L : Nat → Nat → Int64} {R : Nat → Nat → Option Nat} {n s : Nat} {Q : Lo → Lm → Prop} {h : Nat} {y : Int32} (hT : TK K R n) {H : Nat} (hw : I 319 0 = nI H) (hH6 : H ≤ 6) (hh : h < H) (hx : ¬ InR y H) (kk : Q (.inl (some (.int (nI 0)))) (K, up2 I 318 0 (nI 1), L, R, n, s)) : Ok (d + 5) 348 [.ref 318, .int (nI h), .int y] (K, I, L, R, n, s) Q := by
  obtain ⟨-, -, hn⟩ := id hT
  refine Ok.enter (F := F_348) (ls := [.ref 318, .int (nI h), .int y, lDead, lDead, lDead]) rfl rfl ?_
  refine wp_aload0 (pc' := 1) rfl rfl ?_
  refine wp_iconst (v := nI 0) (pc' := 2) rfl rfl rfl ?_
  refine wp_putI (pc' := 5) rfl rfl (by first | exact TK.k1 hT rfl | exact TK.kk hT rfl | exact TK.r hT rfl | assumption) (by omega) rfl ?_
  refine wp_aload0 (pc' := 6) rfl rfl ?_
  refine wp_aload0 (pc' := 7) rfl rfl ?_
  refine wp_iload1 (pc' := 8) rfl rfl ?_
  refine wp_callV2 (pc' := 11) rfl rfl rfl rfl rfl (by first | exact TK.k1 hT rfl | exact TK.kk hT rfl | exact TK.r hT rfl | assumption) rfl rfl ?_
  refine m_noH1 hT (by rw [up2_row (by decide)]; exact hw) hH6 hh ?_
  refine Cont.v ?_
  refine wp_ifneF (pc' := 14) rfl rfl rfl ?_
  refine wp_aload0 (pc' := 15) rfl rfl ?_
  refine wp_iload2 (pc' := 16) rfl rfl ?_
  refine wp_callV2 (pc' := 19) rfl rfl rfl rfl rfl (by first | exact TK.k1 hT rfl | exact TK.kk hT rfl | exact TK.r hT rfl | assumption) rfl rfl ?_
  refine m_noH0 hT (by rw [up2_row (by decide)]; exact hw) hH6 hx ?_
  refine Cont.v ?_
  refine wp_ifeqF (pc' := 22) rfl (by decide) rfl ?_
  refine wp_iconst (v := nI 1) (pc' := 23) rfl rfl rfl ?_
  refine wp_goto rfl ?_
  refine wp_iconst (v := nI 1) (pc' := 28) rfl rfl rfl ?_
  refine wp_callV3 (pc' := 31) rfl rfl rfl rfl rfl (by first | exact TK.k1 hT rfl | exact TK.kk hT rfl | exact TK.r hT rfl | assumption) rfl rfl ?_
  refine m_tfY hT ?_
  refine Cont.v ?_
  refine wp_ifneT rfl (by decide) ?_
  refine wp_iconst (v := nI 0) (pc' := 53) rfl rfl rfl ?_
  refine wp_iret rfl rfl rfl ?_
  rw [up318]
  exact kk
theorem m_restsE2 {d : Nat} {K : Nat → Nat × Nat} {I : Nat → Nat → Int32} {L : Nat → Nat → Int64} {R : Nat → Nat → Option Nat} {n s : Nat} {Q : Lo → Lm → Prop} {h : Nat} (hT : TK K R n) {H : Nat} (hw : I 319 0 = nI H) (hH6 : H ≤ 6) (hh : h < H) (kk : Q (.inl (some (.int (nI 0)))) (K, up2 I 318 0 (nI 2), L, R, n, s)) : Ok (d + 5) 348 [.ref 318, .int (nI h), .int (nI h)] (K, I, L, R, n, s) Q := by
  obtain ⟨-, -, hn⟩ := id hT
  refine Ok.enter (F := F_348) (ls := [.ref 318, .int (nI h), .int (nI h), lDead, lDead, lDead]) rfl rfl ?_
  refine wp_aload0 (pc' := 1) rfl rfl ?_
  refine wp_iconst (v := nI 0) (pc' := 2) rfl rfl rfl ?_
  refine wp_putI (pc' := 5) rfl rfl (by first | exact TK.k1 hT rfl | exact TK.kk hT rfl | exact TK.r hT rfl | assumption) (by omega) rfl ?_
  refine wp_aload0 (pc' := 6) rfl rfl ?_
  refine wp_aload0 (pc' := 7) rfl rfl ?_
  refine wp_iload1 (pc' := 8) rfl rfl ?_
  refine wp_callV2 (pc' := 11) rfl rfl rfl rfl rfl (by first | exact TK.k1 hT rfl | exact TK.kk hT rfl | exact TK.r hT rfl | assumption) rfl rfl ?_
  refine m_noH1 hT (by rw [up2_row (by decide)]; exact hw) hH6 hh ?_
  refine Cont.v ?_
  refine wp_ifneF (pc' := 14) rfl rfl rfl ?_
  refine wp_aload0 (pc' := 15) rfl rfl ?_
  refine wp_iload2 (pc' := 16) rfl rfl ?_
  refine wp_callV2 (pc' := 19) rfl rfl rfl rfl rfl (by first | exact TK.k1 hT rfl | exact TK.kk hT rfl | exact TK.r hT rfl | assumption) rfl rfl ?_
  refine m_noH1 hT (by rw [up2_row (by decide)]; exact hw) hH6 hh ?_
  refine Cont.v ?_
  refine wp_ifeqT rfl rfl ?_
  refine wp_iconst (v := nI 0) (pc' := 27) rfl rfl rfl ?_
  refine wp_iconst (v := nI 1) (pc' := 28) rfl rfl rfl ?_
  refine wp_callV3 (pc' := 31) rfl rfl rfl rfl rfl (by first | exact TK.k1 hT rfl | exact TK.kk hT rfl | exact TK.r hT rfl | assumption) rfl rfl ?_
  refine m_tfN hT ?_
  refine Cont.v ?_
  refine wp_ifneF (pc' := 34) rfl rfl rfl ?_
  refine wp_aload0 (pc' := 35) rfl rfl ?_
  refine wp_iload1 (pc' := 36) rfl rfl ?_
  refine wp_iload2 (pc' := 37) rfl rfl ?_
  refine wp_icmpneF (pc' := 40) rfl rfl rfl ?_
  refine wp_iconst (v := nI 1) (pc' := 41) rfl rfl rfl ?_
  refine wp_goto rfl ?_
  refine wp_iconst (v := nI 2) (pc' := 46) rfl rfl rfl ?_
  refine wp_callV3 (pc' := 49) rfl rfl rfl rfl rfl (by first | exact TK.k1 hT rfl | exact TK.kk hT rfl | exact TK.r hT rfl | assumption) rfl rfl ?_
  refine m_tfY hT ?_
  refine Cont.v ?_
  refine wp_ifeqF (pc' := 52) rfl (by decide) rfl ?_
  refine wp_iconst (v := nI 0) (pc' := 53) rfl rfl rfl ?_
  refine wp_iret rfl rfl rfl ?_
  rw [up318]
  exact kk
