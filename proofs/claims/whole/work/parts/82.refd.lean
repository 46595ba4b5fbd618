/-! THE REFERENCE: the richest, what was led, the tape's end -/
theorem dec61 : ∀ g : Fin 61, ∀ i : Fin 61, nI g.1 - nI (i.1 + 1) + (-1) = nI g.1 - nI (i.1 + 1 + 1) := by decide +kernel
theorem dec61b : ∀ g : Fin 61, nI g.1 - nI (g.1 + 1) < nI 0 := by decide +kernel
def ledS (w : Nat → Int32) (h g i : Nat) (p : Int32 × Int32) : Int32 × Int32 := if w (183 + 5 * (g - (i + 1)) + 1) = nI h then (p.1 + nI 1, w (183 + 5 * (g - (i + 1)) + 0)) else p
def ledW (w : Nat → Int32) (h g i : Nat) : Int32 × Int32 := forN (fun i p => ledS w h g i p) (nI 0, -1) i
theorem ledW_s {w : Nat → Int32} {h g i : Nat} : ledW w h g (i + 1) = ledS w h g i (ledW w h g i) := rfl
theorem ledW_0 {w : Nat → Int32} {h g : Nat} : ledW w h g 0 = (nI 0, -1) := rfl

theorem m_richestOf {d : Nat} {K : Nat → Nat × Nat} {I : Nat → Nat → Int32} {L : Nat → Nat → Int64} {R : Nat → Nat → Option Nat} {n s : Nat} {Q : Lo → Lm → Prop} {H : Nat} (hT : TK K R n) (hw : I 319 0 = nI H) (hH6 : H ≤ 6) (kk : Q (.inl (some (.int (rcF (I 319) (I 334) H)))) (K, I, L, R, n, s)) : Ok (d + 3) 334 [.ref 318] (K, I, L, R, n, s) Q := by
  obtain ⟨-, -, hn⟩ := id hT
  refine Ok.enter (F := F_334) (ls := [.ref 318, lDead, lDead]) rfl rfl ?_
  refine wp_iconst (v := (-1)) (pc' := 1) rfl rfl rfl ?_
  refine wp_istore1 (pc' := 2) rfl (by first | rfl | assumption) rfl ?_
  refine wp_iconst (v := nI 0) (pc' := 3) rfl rfl rfl ?_
  refine wp_istore2 (pc' := 4) rfl (by first | rfl | assumption) rfl ?_
  have lp4 : ∀ r (i : Nat), i + r = H → WP (d + 2) F_334 4 [.ref 318, .int (rcF (I 319) (I 334) i), .int (nI i)] [] (K, I, L, R, n, s) Q := by
    intro r; induction r with
    | zero =>
      intro i hi 
      have hi2 : i = H := by omega
      subst hi2
      refine wp_iload2 (pc' := 5) rfl rfl ?_
      refine wp_aload0 (pc' := 6) rfl rfl ?_
      refine wp_callV1 (pc' := 9) rfl rfl rfl rfl rfl (by first | exact TK.k1 hT rfl | exact TK.kk hT rfl | exact TK.r hT rfl | assumption) rfl rfl ?_
      refine m_hearths hT hw ?_
      refine Cont.v ?_
      refine wp_icmpgeT rfl (nI_nlt (by omega) (by omega)) ?_
      refine wp_iload1 (pc' := 50) rfl rfl ?_
      refine wp_iret rfl rfl rfl ?_
      exact kk
    | succ r ih =>
      intro i hi 
      have hlt : i < H := by omega
      refine wp_iload2 (pc' := 5) rfl rfl ?_
      refine wp_aload0 (pc' := 6) rfl rfl ?_
      refine wp_callV1 (pc' := 9) rfl rfl rfl rfl rfl (by first | exact TK.k1 hT rfl | exact TK.kk hT rfl | exact TK.r hT rfl | assumption) rfl rfl ?_
      refine m_hearths hT hw ?_
      refine Cont.v ?_
      refine wp_icmpgeF (pc' := 12) rfl (nI_lt (by omega) (by omega)) rfl ?_
      refine wp_aload0 (pc' := 13) rfl rfl ?_
      refine wp_getRF (pc' := 16) rfl rfl (by first | exact TK.k1 hT rfl | exact TK.kk hT rfl | exact TK.r hT rfl | assumption) (by first | exact TK.k1 hT rfl | exact TK.kk hT rfl | exact TK.r hT rfl | assumption) rfl ?_
      refine wp_iload2 (pc' := 17) rfl rfl ?_
      first | refine wp_bald _ (pc' := 18) rfl (by first | exact TK.k1 hT rfl | exact TK.kk hT rfl | exact TK.r hT rfl | assumption) (by with_reducible rfl) (by omega) (by first | decide | assumption | omega) rfl ?_ | refine wp_zald _ (pc' := 18) rfl (by first | exact TK.k1 hT rfl | exact TK.kk hT rfl | exact TK.r hT rfl | assumption) (by with_reducible rfl) (by omega) (by first | decide | assumption | omega) rfl ?_
      first | refine wp_ifneB (pc' := 21) rfl rfl ?_ ?_ | refine wp_ifne (pc' := 21) rfl rfl ?_ ?_
      · intro h18
        first | refine wp_iinc2 (w := nI 1) (pc' := 46) rfl rfl rfl (by with_reducible exact nI_add _ _) rfl ?_ | refine wp_iinc2 (w := nI 1) (pc' := 46) rfl rfl rfl rfl rfl ?_
        refine wp_goto rfl ?_
        exact WP.cg (ih (i + 1) (by omega)) (lC1 (lI1 (by first | with_reducible rfl | (rw [rcF_s, if_pos h18, if_pos h23]; done) | (rw [rcF_s, if_pos h18, if_neg h23, htb, if_pos h38]; done) | (rw [rcF_s, if_pos h18, if_neg h23, htb, if_neg h38]; exact hbe.symm) | (rw [rcF_s, if_neg h18]; done)) (lI1 (by first | with_reducible rfl | (rw [rcF_s, if_pos h18, if_pos h23]; done) | (rw [rcF_s, if_pos h18, if_neg h23, htb, if_pos h38]; done) | (rw [rcF_s, if_pos h18, if_neg h23, htb, if_neg h38]; exact hbe.symm) | (rw [rcF_s, if_neg h18]; done)) rfl))) rfl (by first | with_reducible rfl | (simp only [forN, *, ↓reduceIte, not_true_eq_false, not_false_eq_true, and_self, and_true, true_and, and_false, false_and]; done) | rfl | (simp_all [forN]; done))
      · intro h18
        refine wp_iload1 (pc' := 22) rfl rfl ?_
        refine wp_iconst (v := (-1)) (pc' := 23) rfl rfl rfl ?_
        refine wp_icmpeq (pc' := 26) rfl rfl ?_ ?_
        · intro h23
          refine wp_iload2 (pc' := 42) rfl rfl ?_
          refine wp_istore1 (pc' := 43) rfl (by first | rfl | assumption) rfl ?_
          first | refine wp_iinc2 (w := nI 1) (pc' := 46) rfl rfl rfl (by with_reducible exact nI_add _ _) rfl ?_ | refine wp_iinc2 (w := nI 1) (pc' := 46) rfl rfl rfl rfl rfl ?_
          refine wp_goto rfl ?_
          exact WP.cg (ih (i + 1) (by omega)) (lC1 (lI1 (by first | with_reducible rfl | (rw [rcF_s, if_pos h18, if_pos h23]; done) | (rw [rcF_s, if_pos h18, if_neg h23, htb, if_pos h38]; done) | (rw [rcF_s, if_pos h18, if_neg h23, htb, if_neg h38]; exact hbe.symm) | (rw [rcF_s, if_neg h18]; done)) (lI1 (by first | with_reducible rfl | (rw [rcF_s, if_pos h18, if_pos h23]; done) | (rw [rcF_s, if_pos h18, if_neg h23, htb, if_pos h38]; done) | (rw [rcF_s, if_pos h18, if_neg h23, htb, if_neg h38]; exact hbe.symm) | (rw [rcF_s, if_neg h18]; done)) rfl))) rfl (by first | with_reducible rfl | (simp only [forN, *, ↓reduceIte, not_true_eq_false, not_false_eq_true, and_self, and_true, true_and, and_false, false_and]; done) | rfl | (simp_all [forN]; done))
        · intro h23
          obtain ⟨b, hb, hbe⟩ := (rcF_c (w := I 319) (r := I 334) i).resolve_left h23
          have htb : tn (rcF (I 319) (I 334) i) = b := by rw [hbe]; exact tn_nI (by omega)
          rw [hbe]
          refine wp_aload0 (pc' := 27) rfl rfl ?_
          refine wp_iload2 (pc' := 28) rfl rfl ?_
          refine wp_iconst (v := nI 2) (pc' := 29) rfl rfl rfl ?_
          refine wp_callV3 (pc' := 32) rfl rfl rfl rfl rfl (by first | exact TK.k1 hT rfl | exact TK.kk hT rfl | exact TK.r hT rfl | assumption) rfl rfl ?_
          refine m_ofH hT (by omega) (by decide) ?_
          refine Cont.v ?_
          refine wp_aload0 (pc' := 33) rfl rfl ?_
          refine wp_iload1 (pc' := 34) rfl rfl ?_
          refine wp_iconst (v := nI 2) (pc' := 35) rfl rfl rfl ?_
          refine wp_callV3 (pc' := 38) rfl rfl rfl rfl rfl (by first | exact TK.k1 hT rfl | exact TK.kk hT rfl | exact TK.r hT rfl | assumption) rfl rfl ?_
          refine m_ofH hT (by omega) (by decide) ?_
          refine Cont.v ?_
          refine wp_icmple (pc' := 41) rfl rfl ?_ ?_
          · intro h38
            first | refine wp_iinc2 (w := nI 1) (pc' := 46) rfl rfl rfl (by with_reducible exact nI_add _ _) rfl ?_ | refine wp_iinc2 (w := nI 1) (pc' := 46) rfl rfl rfl rfl rfl ?_
            refine wp_goto rfl ?_
            exact WP.cg (ih (i + 1) (by omega)) (lC1 (lI1 (by first | with_reducible rfl | (rw [rcF_s, if_pos h18, if_pos h23]; done) | (rw [rcF_s, if_pos h18, if_neg h23, htb, if_pos h38]; done) | (rw [rcF_s, if_pos h18, if_neg h23, htb, if_neg h38]; exact hbe.symm) | (rw [rcF_s, if_neg h18]; done)) (lI1 (by first | with_reducible rfl | (rw [rcF_s, if_pos h18, if_pos h23]; done) | (rw [rcF_s, if_pos h18, if_neg h23, htb, if_pos h38]; done) | (rw [rcF_s, if_pos h18, if_neg h23, htb, if_neg h38]; exact hbe.symm) | (rw [rcF_s, if_neg h18]; done)) rfl))) rfl (by first | with_reducible rfl | (simp only [forN, *, ↓reduceIte, not_true_eq_false, not_false_eq_true, and_self, and_true, true_and, and_false, false_and]; done) | rfl | (simp_all [forN]; done))
          · intro h38
            refine wp_iload2 (pc' := 42) rfl rfl ?_
            refine wp_istore1 (pc' := 43) rfl (by first | rfl | assumption) rfl ?_
            first | refine wp_iinc2 (w := nI 1) (pc' := 46) rfl rfl rfl (by with_reducible exact nI_add _ _) rfl ?_ | refine wp_iinc2 (w := nI 1) (pc' := 46) rfl rfl rfl rfl rfl ?_
            refine wp_goto rfl ?_
            exact WP.cg (ih (i + 1) (by omega)) (lC1 (lI1 (by first | with_reducible rfl | (rw [rcF_s, if_pos h18, if_pos h23]; done) | (rw [rcF_s, if_pos h18, if_neg h23, htb, if_pos h38]; done) | (rw [rcF_s, if_pos h18, if_neg h23, htb, if_neg h38]; exact hbe.symm) | (rw [rcF_s, if_neg h18]; done)) (lI1 (by first | with_reducible rfl | (rw [rcF_s, if_pos h18, if_pos h23]; done) | (rw [rcF_s, if_pos h18, if_neg h23, htb, if_pos h38]; done) | (rw [rcF_s, if_pos h18, if_neg h23, htb, if_neg h38]; exact hbe.symm) | (rw [rcF_s, if_neg h18]; done)) rfl))) rfl (by first | with_reducible rfl | (simp only [forN, *, ↓reduceIte, not_true_eq_false, not_false_eq_true, and_self, and_true, true_and, and_false, false_and]; done) | rfl | (simp_all [forN]; done))
  exact WP.cg (lp4 (H - (0)) (0) (by omega)) (lC1 (lI1 (by rfl) (lI1 (by rfl) rfl))) rfl (by first | with_reducible rfl | (simp only [forN, *, ↓reduceIte, not_true_eq_false, not_false_eq_true, and_self, and_true, true_and, and_false, false_and]; done) | rfl | (simp_all [forN]; done))
theorem m_richest {d : Nat} {K : Nat → Nat × Nat} {I : Nat → Nat → Int32} {L : Nat → Nat → Int64} {R : Nat → Nat → Option Nat} {n s : Nat} {Q : Lo → Lm → Prop} {H : Nat} (hT : TK K R n) (hw : I 319 0 = nI H) (hH6 : H ≤ 6) (kk : Q (.inl (some (.int (rcF (I 319) (cpy 6 (fun _ => nI 0) ((up2 I 318 0 (nI 0)) 334)) H)))) (K, upr (up2 I 318 0 (nI 0)) 334 (cpy 6 (fun _ => nI 0) ((up2 I 318 0 (nI 0)) 334)), L, R, n, s)) : Ok (d + 4) 354 [.ref 318] (K, I, L, R, n, s) Q := by
  obtain ⟨-, -, hn⟩ := id hT
  refine Ok.enter (F := F_354) (ls := [.ref 318, lDead]) rfl rfl ?_
  refine wp_aload0 (pc' := 1) rfl rfl ?_
  refine wp_iconst (v := nI 0) (pc' := 2) rfl rfl rfl ?_
  refine wp_putI (pc' := 5) rfl rfl (by first | exact TK.k1 hT rfl | exact TK.kk hT rfl | exact TK.r hT rfl | assumption) (by omega) rfl ?_
  obtain ⟨M, hM⟩ : ∃ M, M = up2 I 318 0 (nI 0) := ⟨_, rfl⟩
  have hM9 : M 319 = I 319 := by rw [hM]; exact up2_row (by decide)
  have hM7 : M 318 7 = I 318 7 := by rw [hM, up2_same, if_neg (by decide)]
  rw [← hM]
  refine wp_iconst (v := nI 0) (pc' := 6) rfl rfl rfl ?_
  refine wp_istore1 (pc' := 7) rfl (by first | rfl | assumption) rfl ?_
  have lp7 : ∀ r (i : Nat), i + r = 6 → WP (d + 3) F_354 7 [.ref 318, .int (nI i)] [] (K, upr M 334 (cpy i (fun _ => nI 0) (M 334)), L, R, n, s) Q := by
    intro r; induction r with
    | zero =>
      intro i hi 
      have hi2 : i = 6 := by omega
      subst hi2
      refine wp_iload1 (pc' := 8) rfl rfl ?_
      refine wp_bipush (v := nI 6) (pc' := 10) rfl rfl rfl ?_
      refine wp_icmpgeT rfl (nI_nlt (by omega) (by omega)) ?_
      refine wp_aload0 (pc' := 27) rfl rfl ?_
      refine wp_callV1 (pc' := 30) rfl rfl rfl rfl rfl (by first | exact TK.k1 hT rfl | exact TK.kk hT rfl | exact TK.r hT rfl | assumption) rfl rfl ?_
      refine m_richestOf (H := H) hT (by rw [upr_ne (by decide), hM9]; exact hw) hH6 ?_
      rw [upr_same, upr_ne (show (319 : Nat) ≠ 334 by decide), hM9]
      refine Cont.v ?_
      refine wp_iret rfl rfl rfl ?_
      rw [hM]
      exact kk
    | succ r ih =>
      intro i hi 
      have hlt : i < 6 := by omega
      refine wp_iload1 (pc' := 8) rfl rfl ?_
      refine wp_bipush (v := nI 6) (pc' := 10) rfl rfl rfl ?_
      refine wp_icmpgeF (pc' := 13) rfl (nI_lt (by omega) (by omega)) rfl ?_
      refine wp_aload0 (pc' := 14) rfl rfl ?_
      refine wp_getRF (pc' := 17) rfl rfl (by first | exact TK.k1 hT rfl | exact TK.kk hT rfl | exact TK.r hT rfl | assumption) (by first | exact TK.k1 hT rfl | exact TK.kk hT rfl | exact TK.r hT rfl | assumption) rfl ?_
      refine wp_iload1 (pc' := 18) rfl rfl ?_
      refine wp_iconst (v := nI 0) (pc' := 19) rfl rfl rfl ?_
      first | refine wp_bast _ (pc' := 20) rfl (by first | exact TK.k1 hT rfl | exact TK.kk hT rfl | exact TK.r hT rfl | assumption) (by omega) (by with_reducible rfl) (by omega) (by first | decide | assumption | omega) rfl ?_ | refine wp_zast _ (pc' := 20) rfl (by first | exact TK.k1 hT rfl | exact TK.kk hT rfl | exact TK.r hT rfl | assumption) (by omega) (by first | exact Or.inl rfl | exact Or.inr rfl) (by with_reducible rfl) (by omega) (by first | decide | assumption | omega) rfl ?_
      first | refine wp_iinc1 (w := nI 1) (pc' := 23) rfl rfl rfl (by with_reducible exact nI_add _ _) rfl ?_ | refine wp_iinc1 (w := nI 1) (pc' := 23) rfl rfl rfl rfl rfl ?_
      refine wp_goto rfl ?_
      exact WP.cg (ih (i + 1) (by omega)) (lC1 (lI1 (by rfl) rfl)) rfl (by rw [up2_upr]; exact congrArg (fun r => (K, upr M 334 r, L, R, n, s)) (cpy_up (f := fun _ => nI 0)))
  exact WP.cg (lp7 (6 - (0)) (0) (by omega)) (lC1 (lI1 (by rfl) rfl)) rfl (by rw [cpy_0, upr_id])
theorem m_endA {d : Nat} {K : Nat → Nat × Nat} {I : Nat → Nat → Int32} {L : Nat → Nat → Int64} {R : Nat → Nat → Option Nat} {n s : Nat} {Q : Lo → Lm → Prop} {x : Int32} (hT : TK K R n) (hx : x < nI 0) (kk : Q (.inl (some (.int (nI 0)))) (K, up2 I 318 0 (nI 0), L, R, n, s)) : Ok (d + 1) 217 [.ref 318, .int x] (K, I, L, R, n, s) Q := by
  obtain ⟨-, -, hn⟩ := id hT
  refine Ok.enter (F := F_217) (ls := [.ref 318, .int x]) rfl rfl ?_
  refine wp_aload0 (pc' := 1) rfl rfl ?_
  refine wp_iconst (v := nI 0) (pc' := 2) rfl rfl rfl ?_
  refine wp_putI (pc' := 5) rfl rfl (by first | exact TK.k1 hT rfl | exact TK.kk hT rfl | exact TK.r hT rfl | assumption) (by omega) rfl ?_
  refine wp_iload1 (pc' := 6) rfl rfl ?_
  refine wp_ifltT rfl hx ?_
  refine wp_iconst (v := nI 0) (pc' := 18) rfl rfl rfl ?_
  refine wp_iret rfl rfl (by first | rfl | exact nar_if) ?_
  exact kk
theorem m_endB {d : Nat} {K : Nat → Nat × Nat} {I : Nat → Nat → Int32} {L : Nat → Nat → Int64} {R : Nat → Nat → Option Nat} {n s : Nat} {Q : Lo → Lm → Prop} {x : Int32} (hT : TK K R n) (hx : ¬ x < nI 0) (hx2 : I 318 9 < x) (kk : Q (.inl (some (.int (nI 0)))) (K, up2 I 318 0 (nI 0), L, R, n, s)) : Ok (d + 1) 217 [.ref 318, .int x] (K, I, L, R, n, s) Q := by
  obtain ⟨-, -, hn⟩ := id hT
  refine Ok.enter (F := F_217) (ls := [.ref 318, .int x]) rfl rfl ?_
  refine wp_aload0 (pc' := 1) rfl rfl ?_
  refine wp_iconst (v := nI 0) (pc' := 2) rfl rfl rfl ?_
  refine wp_putI (pc' := 5) rfl rfl (by first | exact TK.k1 hT rfl | exact TK.kk hT rfl | exact TK.r hT rfl | assumption) (by omega) rfl ?_
  refine wp_iload1 (pc' := 6) rfl rfl ?_
  refine wp_ifltF (pc' := 9) rfl hx rfl ?_
  refine wp_iload1 (pc' := 10) rfl rfl ?_
  refine wp_aload0 (pc' := 11) rfl rfl ?_
  refine wp_getI (pc' := 14) rfl rfl (by first | exact TK.k1 hT rfl | exact TK.kk hT rfl | exact TK.r hT rfl | assumption) rfl ?_
  rw [show up2 I 318 0 (nI 0) 318 9 = I 318 9 by rw [up2_same, if_neg (by decide)]]
  refine wp_icmpleF (pc' := 17) rfl hx2 rfl ?_
  refine wp_iconst (v := nI 0) (pc' := 18) rfl rfl rfl ?_
  refine wp_iret rfl rfl (by first | rfl | exact nar_if) ?_
  exact kk
theorem m_endC {d : Nat} {K : Nat → Nat × Nat} {I : Nat → Nat → Int32} {L : Nat → Nat → Int64} {R : Nat → Nat → Option Nat} {n s : Nat} {Q : Lo → Lm → Prop} {x : Int32} (hT : TK K R n) (hx : ¬ x < nI 0) (hx2 : ¬ I 318 9 < x) (kk : Q (.inl (some (.int (nI 1)))) (K, up2 (up2 I 318 0 (nI 0)) 318 9 x, L, R, n, s)) : Ok (d + 1) 217 [.ref 318, .int x] (K, I, L, R, n, s) Q := by
  obtain ⟨-, -, hn⟩ := id hT
  refine Ok.enter (F := F_217) (ls := [.ref 318, .int x]) rfl rfl ?_
  refine wp_aload0 (pc' := 1) rfl rfl ?_
  refine wp_iconst (v := nI 0) (pc' := 2) rfl rfl rfl ?_
  refine wp_putI (pc' := 5) rfl rfl (by first | exact TK.k1 hT rfl | exact TK.kk hT rfl | exact TK.r hT rfl | assumption) (by omega) rfl ?_
  refine wp_iload1 (pc' := 6) rfl rfl ?_
  refine wp_ifltF (pc' := 9) rfl hx rfl ?_
  refine wp_iload1 (pc' := 10) rfl rfl ?_
  refine wp_aload0 (pc' := 11) rfl rfl ?_
  refine wp_getI (pc' := 14) rfl rfl (by first | exact TK.k1 hT rfl | exact TK.kk hT rfl | exact TK.r hT rfl | assumption) rfl ?_
  rw [show up2 I 318 0 (nI 0) 318 9 = I 318 9 by rw [up2_same, if_neg (by decide)]]
  refine wp_icmpleT rfl hx2 ?_
  refine wp_aload0 (pc' := 20) rfl rfl ?_
  refine wp_iload1 (pc' := 21) rfl rfl ?_
  refine wp_putI (pc' := 24) rfl rfl (by first | exact TK.k1 hT rfl | exact TK.kk hT rfl | exact TK.r hT rfl | assumption) (by omega) rfl ?_
  refine wp_iconst (v := nI 1) (pc' := 25) rfl rfl rfl ?_
  refine wp_iret rfl rfl (by first | rfl | exact nar_if) ?_
  exact kk
theorem m_led1 {d : Nat} {K : Nat → Nat × Nat} {I : Nat → Nat → Int32} {L : Nat → Nat → Int64} {R : Nat → Nat → Option Nat} {n s : Nat} {Q : Lo → Lm → Prop} {h g : Nat} (hT : TK K R n) {H : Nat} (hw : I 319 0 = nI H) (hH6 : H ≤ 6) (hh : h < H) (hgl : I 319 7 = nI g) (hg60 : g ≤ 60) (kk : Q (.inl (some (.int ((ledW (I 319) h g g).2)))) (K, up2 I 318 0 (nI 0), L, R, n, s)) : Ok (d + 3) 364 [.ref 318, .int (nI h), .int (nI 1)] (K, I, L, R, n, s) Q := by
  obtain ⟨-, -, hn⟩ := id hT
  refine Ok.enter (F := F_364) (ls := [.ref 318, .int (nI h), .int (nI 1), lDead, lDead, lDead]) rfl rfl ?_
  refine wp_aload0 (pc' := 1) rfl rfl ?_
  refine wp_iconst (v := nI 0) (pc' := 2) rfl rfl rfl ?_
  refine wp_putI (pc' := 5) rfl rfl (by first | exact TK.k1 hT rfl | exact TK.kk hT rfl | exact TK.r hT rfl | assumption) (by omega) rfl ?_
  obtain ⟨M, hM⟩ : ∃ M, M = up2 I 318 0 (nI 0) := ⟨_, rfl⟩
  have hM9 : M 319 = I 319 := by rw [hM]; exact up2_row (by decide)
  have hM7 : M 318 7 = I 318 7 := by rw [hM, up2_same, if_neg (by decide)]
  rw [← hM]
  refine wp_aload0 (pc' := 6) rfl rfl ?_
  refine wp_aload0 (pc' := 7) rfl rfl ?_
  refine wp_iload1 (pc' := 8) rfl rfl ?_
  refine wp_callV2 (pc' := 11) rfl rfl rfl rfl rfl (by first | exact TK.k1 hT rfl | exact TK.kk hT rfl | exact TK.r hT rfl | assumption) rfl rfl ?_
  refine m_noH1 hT (by rw [hM9]; exact hw) hH6 hh ?_
  refine Cont.v ?_
  refine wp_iconst (v := nI 1) (pc' := 12) rfl rfl rfl ?_
  refine wp_callV3 (pc' := 15) rfl rfl rfl rfl rfl (by first | exact TK.k1 hT rfl | exact TK.kk hT rfl | exact TK.r hT rfl | assumption) rfl rfl ?_
  refine m_tfN hT ?_
  refine Cont.v ?_
  refine wp_ifeqT rfl rfl ?_
  refine wp_iconst (v := nI 0) (pc' := 21) rfl rfl rfl ?_
  refine wp_istore3 (pc' := 22) rfl (by first | rfl | assumption) rfl ?_
  refine wp_iconst (v := (-1)) (pc' := 23) rfl rfl rfl ?_
  refine wp_istore4 (pc' := 25) rfl (by first | rfl | assumption) rfl ?_
  refine wp_aload0 (pc' := 26) rfl rfl ?_
  refine wp_getRF (pc' := 29) rfl rfl (by first | exact TK.k1 hT rfl | exact TK.kk hT rfl | exact TK.r hT rfl | assumption) (by first | exact TK.k1 hT rfl | exact TK.kk hT rfl | exact TK.r hT rfl | assumption) rfl ?_
  refine wp_bipush (v := nI 7) (pc' := 31) rfl rfl rfl ?_
  refine wp_iald _ (pc' := 32) rfl (by first | exact TK.k1 hT rfl | exact TK.kk hT rfl | exact TK.r hT rfl | assumption) (by with_reducible rfl) (by omega) (by first | decide | assumption | omega) rfl ?_
  rw [hM9, hgl]
  refine wp_iconst (v := nI 1) (pc' := 33) rfl rfl rfl ?_
  refine wp_isub (pc' := 34) rfl rfl ?_
  refine wp_istore5 (pc' := 36) rfl (by first | rfl | assumption) rfl ?_
  have lp36 : ∀ r (i : Nat), i + r = g → WP (d + 2) F_364 36 [.ref 318, .int (nI h), .int (nI 1), .int (ledW (I 319) h g i).1, .int (ledW (I 319) h g i).2, .int (nI g - nI (i + 1))] [] (K, M, L, R, n, s) Q := by
    intro r; induction r with
    | zero =>
      intro i hi 
      have hi2 : i = g := by omega
      subst hi2
      refine wp_iload5 (pc' := 38) rfl rfl ?_
      refine wp_ifltT rfl (dec61b ⟨_, by omega⟩) ?_
      refine wp_iload2 (pc' := 74) rfl rfl ?_
      refine wp_ifeqF (pc' := 77) rfl (by decide) rfl ?_
      refine wp_iload4 (pc' := 79) rfl rfl ?_
      refine wp_goto rfl ?_
      refine wp_iret rfl rfl rfl ?_
      rw [hM]
      exact kk
    | succ r ih =>
      intro i hi 
      have hlt : i < g := by omega
      have hd := dec61 ⟨g, by omega⟩ ⟨i, by omega⟩
      rw [nI_sub (show i + 1 ≤ g by omega)] at hd ⊢
      refine wp_iload5 (pc' := 38) rfl rfl ?_
      refine wp_ifltF (pc' := 41) rfl (nI_pos (by omega)) rfl ?_
      refine wp_aload0 (pc' := 42) rfl rfl ?_
      refine wp_iload5 (pc' := 44) rfl rfl ?_
      refine wp_iconst (v := nI 1) (pc' := 45) rfl rfl rfl ?_
      refine wp_callV3 (pc' := 48) rfl rfl rfl rfl rfl (by first | exact TK.k1 hT rfl | exact TK.kk hT rfl | exact TK.r hT rfl | assumption) rfl rfl ?_
      refine m_ofLog hT (by omega) (by decide) ?_
      rw [hM9]
      refine Cont.v ?_
      refine wp_iload1 (pc' := 49) rfl rfl ?_
      refine wp_icmpeq (pc' := 52) rfl rfl ?_ ?_
      · intro h49
        first | refine wp_iinc3 (w := nI 1) (pc' := 58) rfl rfl rfl (by with_reducible exact nI_add _ _) rfl ?_ | refine wp_iinc3 (w := nI 1) (pc' := 58) rfl rfl rfl rfl rfl ?_
        refine wp_aload0 (pc' := 59) rfl rfl ?_
        refine wp_iload5 (pc' := 61) rfl rfl ?_
        refine wp_iconst (v := nI 0) (pc' := 62) rfl rfl rfl ?_
        refine wp_callV3 (pc' := 65) rfl rfl rfl rfl rfl (by first | exact TK.k1 hT rfl | exact TK.kk hT rfl | exact TK.r hT rfl | assumption) rfl rfl ?_
        refine m_ofLog hT (by omega) (by decide) ?_
        rw [hM9]
        refine Cont.v ?_
        refine wp_istore4 (pc' := 67) rfl (by first | rfl | assumption) rfl ?_
        first | refine wp_iinc5 (w := (-1)) (pc' := 70) rfl rfl rfl (by with_reducible exact nI_sub1 (by omega)) rfl ?_ | refine wp_iinc5 (w := (-1)) (pc' := 70) rfl rfl rfl rfl rfl ?_
        refine wp_goto rfl ?_
        exact WP.cg (ih (i + 1) (by omega)) (lC1 (lI1 (by first | with_reducible rfl | with_reducible exact hd | (rw [ledW_s, ledS, if_pos h49]; done) | (rw [ledW_s, ledS, if_neg h49]; done)) (lI1 (by first | with_reducible rfl | with_reducible exact hd | (rw [ledW_s, ledS, if_pos h49]; done) | (rw [ledW_s, ledS, if_neg h49]; done)) (lI1 (by first | with_reducible rfl | with_reducible exact hd | (rw [ledW_s, ledS, if_pos h49]; done) | (rw [ledW_s, ledS, if_neg h49]; done)) (lI1 (by first | with_reducible rfl | with_reducible exact hd | (rw [ledW_s, ledS, if_pos h49]; done) | (rw [ledW_s, ledS, if_neg h49]; done)) (lI1 (by first | with_reducible rfl | with_reducible exact hd | (rw [ledW_s, ledS, if_pos h49]; done) | (rw [ledW_s, ledS, if_neg h49]; done)) rfl)))))) rfl (by rfl)
      · intro h49
        refine wp_goto rfl ?_
        first | refine wp_iinc5 (w := (-1)) (pc' := 70) rfl rfl rfl (by with_reducible exact nI_sub1 (by omega)) rfl ?_ | refine wp_iinc5 (w := (-1)) (pc' := 70) rfl rfl rfl rfl rfl ?_
        refine wp_goto rfl ?_
        exact WP.cg (ih (i + 1) (by omega)) (lC1 (lI1 (by first | with_reducible rfl | with_reducible exact hd | (rw [ledW_s, ledS, if_pos h49]; done) | (rw [ledW_s, ledS, if_neg h49]; done)) (lI1 (by first | with_reducible rfl | with_reducible exact hd | (rw [ledW_s, ledS, if_pos h49]; done) | (rw [ledW_s, ledS, if_neg h49]; done)) (lI1 (by first | with_reducible rfl | with_reducible exact hd | (rw [ledW_s, ledS, if_pos h49]; done) | (rw [ledW_s, ledS, if_neg h49]; done)) (lI1 (by first | with_reducible rfl | with_reducible exact hd | (rw [ledW_s, ledS, if_pos h49]; done) | (rw [ledW_s, ledS, if_neg h49]; done)) (lI1 (by first | with_reducible rfl | with_reducible exact hd | (rw [ledW_s, ledS, if_pos h49]; done) | (rw [ledW_s, ledS, if_neg h49]; done)) rfl)))))) rfl (by rfl)
  exact WP.cg (lp36 (g - (0)) (0) (by omega)) (lC1 (lI1 (by first | with_reducible rfl | (rw [ledW_0]; done)) (lI1 (by first | with_reducible rfl | (rw [ledW_0]; done)) (lI1 (by first | with_reducible rfl | (rw [ledW_0]; done)) (lI1 (by first | with_reducible rfl | (rw [ledW_0]; done)) (lI1 (by first | with_reducible rfl | (rw [ledW_0]; done)) rfl)))))) rfl (by rfl)
theorem m_led0 {d : Nat} {K : Nat → Nat × Nat} {I : Nat → Nat → Int32} {L : Nat → Nat → Int64} {R : Nat → Nat → Option Nat} {n s : Nat} {Q : Lo → Lm → Prop} {h g : Nat} (hT : TK K R n) {H : Nat} (hw : I 319 0 = nI H) (hH6 : H ≤ 6) (hh : h < H) (hgl : I 319 7 = nI g) (hg60 : g ≤ 60) (kk : Q (.inl (some (.int ((ledW (I 319) h g g).1)))) (K, up2 I 318 0 (nI 0), L, R, n, s)) : Ok (d + 3) 364 [.ref 318, .int (nI h), .int (nI 0)] (K, I, L, R, n, s) Q := by
  obtain ⟨-, -, hn⟩ := id hT
  refine Ok.enter (F := F_364) (ls := [.ref 318, .int (nI h), .int (nI 0), lDead, lDead, lDead]) rfl rfl ?_
  refine wp_aload0 (pc' := 1) rfl rfl ?_
  refine wp_iconst (v := nI 0) (pc' := 2) rfl rfl rfl ?_
  refine wp_putI (pc' := 5) rfl rfl (by first | exact TK.k1 hT rfl | exact TK.kk hT rfl | exact TK.r hT rfl | assumption) (by omega) rfl ?_
  obtain ⟨M, hM⟩ : ∃ M, M = up2 I 318 0 (nI 0) := ⟨_, rfl⟩
  have hM9 : M 319 = I 319 := by rw [hM]; exact up2_row (by decide)
  have hM7 : M 318 7 = I 318 7 := by rw [hM, up2_same, if_neg (by decide)]
  rw [← hM]
  refine wp_aload0 (pc' := 6) rfl rfl ?_
  refine wp_aload0 (pc' := 7) rfl rfl ?_
  refine wp_iload1 (pc' := 8) rfl rfl ?_
  refine wp_callV2 (pc' := 11) rfl rfl rfl rfl rfl (by first | exact TK.k1 hT rfl | exact TK.kk hT rfl | exact TK.r hT rfl | assumption) rfl rfl ?_
  refine m_noH1 hT (by rw [hM9]; exact hw) hH6 hh ?_
  refine Cont.v ?_
  refine wp_iconst (v := nI 1) (pc' := 12) rfl rfl rfl ?_
  refine wp_callV3 (pc' := 15) rfl rfl rfl rfl rfl (by first | exact TK.k1 hT rfl | exact TK.kk hT rfl | exact TK.r hT rfl | assumption) rfl rfl ?_
  refine m_tfN hT ?_
  refine Cont.v ?_
  refine wp_ifeqT rfl rfl ?_
  refine wp_iconst (v := nI 0) (pc' := 21) rfl rfl rfl ?_
  refine wp_istore3 (pc' := 22) rfl (by first | rfl | assumption) rfl ?_
  refine wp_iconst (v := (-1)) (pc' := 23) rfl rfl rfl ?_
  refine wp_istore4 (pc' := 25) rfl (by first | rfl | assumption) rfl ?_
  refine wp_aload0 (pc' := 26) rfl rfl ?_
  refine wp_getRF (pc' := 29) rfl rfl (by first | exact TK.k1 hT rfl | exact TK.kk hT rfl | exact TK.r hT rfl | assumption) (by first | exact TK.k1 hT rfl | exact TK.kk hT rfl | exact TK.r hT rfl | assumption) rfl ?_
  refine wp_bipush (v := nI 7) (pc' := 31) rfl rfl rfl ?_
  refine wp_iald _ (pc' := 32) rfl (by first | exact TK.k1 hT rfl | exact TK.kk hT rfl | exact TK.r hT rfl | assumption) (by with_reducible rfl) (by omega) (by first | decide | assumption | omega) rfl ?_
  rw [hM9, hgl]
  refine wp_iconst (v := nI 1) (pc' := 33) rfl rfl rfl ?_
  refine wp_isub (pc' := 34) rfl rfl ?_
  refine wp_istore5 (pc' := 36) rfl (by first | rfl | assumption) rfl ?_
  have lp36 : ∀ r (i : Nat), i + r = g → WP (d + 2) F_364 36 [.ref 318, .int (nI h), .int (nI 0), .int (ledW (I 319) h g i).1, .int (ledW (I 319) h g i).2, .int (nI g - nI (i + 1))] [] (K, M, L, R, n, s) Q := by
    intro r; induction r with
    | zero =>
      intro i hi 
      have hi2 : i = g := by omega
      subst hi2
      refine wp_iload5 (pc' := 38) rfl rfl ?_
      refine wp_ifltT rfl (dec61b ⟨_, by omega⟩) ?_
      refine wp_iload2 (pc' := 74) rfl rfl ?_
      refine wp_ifeqT rfl rfl ?_
      refine wp_iload3 (pc' := 83) rfl rfl ?_
      refine wp_iret rfl rfl rfl ?_
      rw [hM]
      exact kk
    | succ r ih =>
      intro i hi 
      have hlt : i < g := by omega
      have hd := dec61 ⟨g, by omega⟩ ⟨i, by omega⟩
      rw [nI_sub (show i + 1 ≤ g by omega)] at hd ⊢
      refine wp_iload5 (pc' := 38) rfl rfl ?_
      refine wp_ifltF (pc' := 41) rfl (nI_pos (by omega)) rfl ?_
      refine wp_aload0 (pc' := 42) rfl rfl ?_
      refine wp_iload5 (pc' := 44) rfl rfl ?_
      refine wp_iconst (v := nI 1) (pc' := 45) rfl rfl rfl ?_
      refine wp_callV3 (pc' := 48) rfl rfl rfl rfl rfl (by first | exact TK.k1 hT rfl | exact TK.kk hT rfl | exact TK.r hT rfl | assumption) rfl rfl ?_
      refine m_ofLog hT (by omega) (by decide) ?_
      rw [hM9]
      refine Cont.v ?_
      refine wp_iload1 (pc' := 49) rfl rfl ?_
      refine wp_icmpeq (pc' := 52) rfl rfl ?_ ?_
      · intro h49
        first | refine wp_iinc3 (w := nI 1) (pc' := 58) rfl rfl rfl (by with_reducible exact nI_add _ _) rfl ?_ | refine wp_iinc3 (w := nI 1) (pc' := 58) rfl rfl rfl rfl rfl ?_
        refine wp_aload0 (pc' := 59) rfl rfl ?_
        refine wp_iload5 (pc' := 61) rfl rfl ?_
        refine wp_iconst (v := nI 0) (pc' := 62) rfl rfl rfl ?_
        refine wp_callV3 (pc' := 65) rfl rfl rfl rfl rfl (by first | exact TK.k1 hT rfl | exact TK.kk hT rfl | exact TK.r hT rfl | assumption) rfl rfl ?_
        refine m_ofLog hT (by omega) (by decide) ?_
        rw [hM9]
        refine Cont.v ?_
        refine wp_istore4 (pc' := 67) rfl (by first | rfl | assumption) rfl ?_
        first | refine wp_iinc5 (w := (-1)) (pc' := 70) rfl rfl rfl (by with_reducible exact nI_sub1 (by omega)) rfl ?_ | refine wp_iinc5 (w := (-1)) (pc' := 70) rfl rfl rfl rfl rfl ?_
        refine wp_goto rfl ?_
        exact WP.cg (ih (i + 1) (by omega)) (lC1 (lI1 (by first | with_reducible rfl | with_reducible exact hd | (rw [ledW_s, ledS, if_pos h49]; done) | (rw [ledW_s, ledS, if_neg h49]; done)) (lI1 (by first | with_reducible rfl | with_reducible exact hd | (rw [ledW_s, ledS, if_pos h49]; done) | (rw [ledW_s, ledS, if_neg h49]; done)) (lI1 (by first | with_reducible rfl | with_reducible exact hd | (rw [ledW_s, ledS, if_pos h49]; done) | (rw [ledW_s, ledS, if_neg h49]; done)) (lI1 (by first | with_reducible rfl | with_reducible exact hd | (rw [ledW_s, ledS, if_pos h49]; done) | (rw [ledW_s, ledS, if_neg h49]; done)) (lI1 (by first | with_reducible rfl | with_reducible exact hd | (rw [ledW_s, ledS, if_pos h49]; done) | (rw [ledW_s, ledS, if_neg h49]; done)) rfl)))))) rfl (by rfl)
      · intro h49
        refine wp_goto rfl ?_
        first | refine wp_iinc5 (w := (-1)) (pc' := 70) rfl rfl rfl (by with_reducible exact nI_sub1 (by omega)) rfl ?_ | refine wp_iinc5 (w := (-1)) (pc' := 70) rfl rfl rfl rfl rfl ?_
        refine wp_goto rfl ?_
        exact WP.cg (ih (i + 1) (by omega)) (lC1 (lI1 (by first | with_reducible rfl | with_reducible exact hd | (rw [ledW_s, ledS, if_pos h49]; done) | (rw [ledW_s, ledS, if_neg h49]; done)) (lI1 (by first | with_reducible rfl | with_reducible exact hd | (rw [ledW_s, ledS, if_pos h49]; done) | (rw [ledW_s, ledS, if_neg h49]; done)) (lI1 (by first | with_reducible rfl | with_reducible exact hd | (rw [ledW_s, ledS, if_pos h49]; done) | (rw [ledW_s, ledS, if_neg h49]; done)) (lI1 (by first | with_reducible rfl | with_reducible exact hd | (rw [ledW_s, ledS, if_pos h49]; done) | (rw [ledW_s, ledS, if_neg h49]; done)) (lI1 (by first | with_reducible rfl | with_reducible exact hd | (rw [ledW_s, ledS, if_pos h49]; done) | (rw [ledW_s, ledS, if_neg h49]; done)) rfl)))))) rfl (by rfl)
  exact WP.cg (lp36 (g - (0)) (0) (by omega)) (lC1 (lI1 (by first | with_reducible rfl | (rw [ledW_0]; done)) (lI1 (by first | with_reducible rfl | (rw [ledW_0]; done)) (lI1 (by first | with_reducible rfl | (rw [ledW_0]; done)) (lI1 (by first | with_reducible rfl | (rw [ledW_0]; done)) (lI1 (by first | with_reducible rfl | (rw [ledW_0]; done)) rfl)))))) rfl (by rfl)
theorem m_ledE {d : Nat} {K : Nat → Nat × Nat} {I : Nat → Nat → Int32} {L : Nat → Nat → Int64} {R : Nat → Nat → Option Nat} {n s : Nat} {Q : Lo → Lm → Prop} {x y : Int32} (hT : TK K R n) {H : Nat} (hw : I 319 0 = nI H) (hH6 : H ≤ 6) (hx : ¬ InR x H) (kk : Q (.inl (some (.int (nI 0)))) (K, up2 I 318 0 (nI 1), L, R, n, s)) : Ok (d + 3) 364 [.ref 318, .int x, .int y] (K, I, L, R, n, s) Q := by
  obtain ⟨-, -, hn⟩ := id hT
  refine Ok.enter (F := F_364) (ls := [.ref 318, .int x, .int y, lDead, lDead, lDead]) rfl rfl ?_
  refine wp_aload0 (pc' := 1) rfl rfl ?_
  refine wp_iconst (v := nI 0) (pc' := 2) rfl rfl rfl ?_
  refine wp_putI (pc' := 5) rfl rfl (by first | exact TK.k1 hT rfl | exact TK.kk hT rfl | exact TK.r hT rfl | assumption) (by omega) rfl ?_
  refine wp_aload0 (pc' := 6) rfl rfl ?_
  refine wp_aload0 (pc' := 7) rfl rfl ?_
  refine wp_iload1 (pc' := 8) rfl rfl ?_
  refine wp_callV2 (pc' := 11) rfl rfl rfl rfl rfl (by first | exact TK.k1 hT rfl | exact TK.kk hT rfl | exact TK.r hT rfl | assumption) rfl rfl ?_
  refine m_noH0 hT (by rw [up2_row (by decide)]; exact hw) hH6 hx ?_
  refine Cont.v ?_
  refine wp_iconst (v := nI 1) (pc' := 12) rfl rfl rfl ?_
  refine wp_callV3 (pc' := 15) rfl rfl rfl rfl rfl (by first | exact TK.k1 hT rfl | exact TK.kk hT rfl | exact TK.r hT rfl | assumption) rfl rfl ?_
  refine m_tfY hT ?_
  refine Cont.v ?_
  refine wp_ifeqF (pc' := 18) rfl (by decide) rfl ?_
  refine wp_iconst (v := nI 0) (pc' := 19) rfl rfl rfl ?_
  refine wp_iret rfl rfl rfl ?_
  rw [up318]
  exact kk
