/-! THE REFERENCE: turf is carted -/
abbrev carP (w : Nat → Int32) (h c wy : Nat) : Prop := nI 0 < w (9 + 6 * c + 3) ∧ ¬ w (9 + 6 * c + 4) < nI 60 ∧ hasP (w (159 + 4 * h + 3)) c ∧ ¬ nI 4 * w (159 + 4 * h + 0) < nI (wy / 1000)
def carW (w : Nat → Int32) (h c : Nat) : Nat → Int32 := tolW (up1 (up1 (up1 (up1 w (159 + 4 * h + 2) (jmin (nI 999) (w (159 + 4 * h + 2) + w (9 + 6 * c + 3)))) (9 + 6 * c + 3) (nI 0)) (9 + 6 * c + 4) (nI 0)) (9 + 6 * c + 5) (nI 0)) (nI h) (nI c) (nI 2) (w (9 + 6 * c + 3))
theorem act_mkX {A : Nat} {I X J N : Mem} {w : Nat → Int32} (hX : KpS (up2 I 318 0 (nI 0)) X) (hX9 : X 319 = I 319) (h : RemJ A X J) (hk : KpS J N) (hw : N 319 = w) : ActJ A I N w := by
  obtain ⟨h1, h2, h3, h4⟩ := h
  refine ⟨fun a ha => ?_, fun j h7 h0 => ?_, ?_, ?_, ?_, hw⟩
  · rw [hk a (by omega), h1 a (by omega) (by omega), hX a (by omega), up2_ne (by omega)]
  · rw [hk 318 (by omega), h2 j h7, hX 318 (by omega), up2_same, if_neg h0]
  · rw [hk 318 (by omega), h2 0 (by decide), hX 318 (by omega), up2_hit]
  · rw [hk 318 (by omega)]; exact h3
  · rw [hk 323 (by omega), h4, hX9, hX 323 (by omega), up2_ne (by decide)]

theorem m_canCart {d : Nat} {K : Nat → Nat × Nat} {I : Nat → Nat → Int32} {L : Nat → Nat → Int64} {R : Nat → Nat → Option Nat} {n s : Nat} {Q : Lo → Lm → Prop} {h c : Nat} (hT : TK K R n) (hh : h < 6) (hc : c < 25) {o : RwT} (hro : RO (I 319) o) {sk : Nat → Nat} (hsk : ∀ q, q < 25 → rsink (I 319) q o = nI (sk q) ∧ sk q ≤ 90000) {wy : Nat} (hwy : ∀ a, FixI (wayK sk c) (wayU sk) a → mnN a 5 = wy) (kk : ∀ J, KpS I J → J 319 = I 319 → Q (.inl (some (.int (if carP (I 319) h c wy then nI 1 else nI 0)))) (K, J, L, R, n, s)) : Ok (d + 10) 299 [.ref 318, .int (nI h), .int (nI c)] (K, I, L, R, n, s) Q := by
  obtain ⟨-, -, hn⟩ := id hT
  refine Ok.enter (F := F_299) (ls := [.ref 318, .int (nI h), .int (nI c)]) rfl rfl ?_
  refine wp_aload0 (pc' := 1) rfl rfl ?_
  refine wp_iload2 (pc' := 2) rfl rfl ?_
  refine wp_iconst (v := nI 3) (pc' := 3) rfl rfl rfl ?_
  refine wp_callV3 (pc' := 6) rfl rfl rfl rfl rfl (by first | exact TK.k1 hT rfl | exact TK.kk hT rfl | exact TK.r hT rfl | assumption) rfl rfl ?_
  refine m_of hT hc (by decide) ?_
  refine Cont.v ?_
  refine wp_ifle (pc' := 9) rfl rfl ?_ ?_
  · intro h6
    refine wp_iconst (v := nI 0) (pc' := 58) rfl rfl rfl ?_
    refine wp_iret rfl rfl (by first | rfl | exact nar_if) ?_
    first | exact Qv (kk _ KpS.rfl' rfl) (by rw [if_neg (show ¬ carP (I 319) h c wy from fun q => h6 q.1)]) rfl | exact Qv (kk _ KpS.rfl' rfl) (by rw [if_neg (show ¬ carP (I 319) h c wy from fun q => q.2.1 h17)]) rfl | exact Qv (kk _ KpS.rfl' rfl) (by rw [if_neg (show ¬ carP (I 319) h c wy from fun q => h30 q.2.2.1)]) rfl | exact Qv (kk _ ((KpS.rfl'.upr (b := 328) (by omega)).upr (b := 326) (by omega)) (by rw [upr_ne (by decide), upr_ne (by decide)])) (by rw [if_pos (show carP (I 319) h c wy from And.intro h6 (And.intro h17 (And.intro h30 h50)))]) rfl | exact Qv (kk _ ((KpS.rfl'.upr (b := 328) (by omega)).upr (b := 326) (by omega)) (by rw [upr_ne (by decide), upr_ne (by decide)])) (by rw [if_neg (show ¬ carP (I 319) h c wy from fun q => q.2.2.2 h50)]) rfl
  · intro h6
    refine wp_aload0 (pc' := 10) rfl rfl ?_
    refine wp_iload2 (pc' := 11) rfl rfl ?_
    refine wp_iconst (v := nI 4) (pc' := 12) rfl rfl rfl ?_
    refine wp_callV3 (pc' := 15) rfl rfl rfl rfl rfl (by first | exact TK.k1 hT rfl | exact TK.kk hT rfl | exact TK.r hT rfl | assumption) rfl rfl ?_
    refine m_of hT hc (by decide) ?_
    refine Cont.v ?_
    refine wp_bipush (v := nI 60) (pc' := 17) rfl rfl rfl ?_
    refine wp_icmplt (pc' := 20) rfl rfl ?_ ?_
    · intro h17
      refine wp_iconst (v := nI 0) (pc' := 58) rfl rfl rfl ?_
      refine wp_iret rfl rfl (by first | rfl | exact nar_if) ?_
      first | exact Qv (kk _ KpS.rfl' rfl) (by rw [if_neg (show ¬ carP (I 319) h c wy from fun q => h6 q.1)]) rfl | exact Qv (kk _ KpS.rfl' rfl) (by rw [if_neg (show ¬ carP (I 319) h c wy from fun q => q.2.1 h17)]) rfl | exact Qv (kk _ KpS.rfl' rfl) (by rw [if_neg (show ¬ carP (I 319) h c wy from fun q => h30 q.2.2.1)]) rfl | exact Qv (kk _ ((KpS.rfl'.upr (b := 328) (by omega)).upr (b := 326) (by omega)) (by rw [upr_ne (by decide), upr_ne (by decide)])) (by rw [if_pos (show carP (I 319) h c wy from And.intro h6 (And.intro h17 (And.intro h30 h50)))]) rfl | exact Qv (kk _ ((KpS.rfl'.upr (b := 328) (by omega)).upr (b := 326) (by omega)) (by rw [upr_ne (by decide), upr_ne (by decide)])) (by rw [if_neg (show ¬ carP (I 319) h c wy from fun q => q.2.2.2 h50)]) rfl
    · intro h17
      refine wp_aload0 (pc' := 21) rfl rfl ?_
      refine wp_iload1 (pc' := 22) rfl rfl ?_
      refine wp_iconst (v := nI 3) (pc' := 23) rfl rfl rfl ?_
      refine wp_callV3 (pc' := 26) rfl rfl rfl rfl rfl (by first | exact TK.k1 hT rfl | exact TK.kk hT rfl | exact TK.r hT rfl | assumption) rfl rfl ?_
      refine m_ofH hT hh (by decide) ?_
      refine Cont.v ?_
      refine wp_iload2 (pc' := 27) rfl rfl ?_
      refine wp_callS2 (pc' := 30) rfl rfl rfl rfl rfl rfl ?_
      refine m_has ?_
      refine Cont.v ?_
      first | refine wp_ifeqB (pc' := 33) rfl rfl ?_ ?_ | refine wp_ifeq (pc' := 33) rfl rfl ?_ ?_
      · intro h30
        refine wp_iconst (v := nI 0) (pc' := 58) rfl rfl rfl ?_
        refine wp_iret rfl rfl (by first | rfl | exact nar_if) ?_
        first | exact Qv (kk _ KpS.rfl' rfl) (by rw [if_neg (show ¬ carP (I 319) h c wy from fun q => h6 q.1)]) rfl | exact Qv (kk _ KpS.rfl' rfl) (by rw [if_neg (show ¬ carP (I 319) h c wy from fun q => q.2.1 h17)]) rfl | exact Qv (kk _ KpS.rfl' rfl) (by rw [if_neg (show ¬ carP (I 319) h c wy from fun q => h30 q.2.2.1)]) rfl | exact Qv (kk _ ((KpS.rfl'.upr (b := 328) (by omega)).upr (b := 326) (by omega)) (by rw [upr_ne (by decide), upr_ne (by decide)])) (by rw [if_pos (show carP (I 319) h c wy from And.intro h6 (And.intro h17 (And.intro h30 h50)))]) rfl | exact Qv (kk _ ((KpS.rfl'.upr (b := 328) (by omega)).upr (b := 326) (by omega)) (by rw [upr_ne (by decide), upr_ne (by decide)])) (by rw [if_neg (show ¬ carP (I 319) h c wy from fun q => q.2.2.2 h50)]) rfl
      · intro h30
        refine wp_aload0 (pc' := 34) rfl rfl ?_
        refine wp_iload2 (pc' := 35) rfl rfl ?_
        refine wp_callV2 (pc' := 38) rfl rfl rfl rfl rfl (by first | exact TK.k1 hT rfl | exact TK.kk hT rfl | exact TK.r hT rfl | assumption) rfl rfl ?_
        refine m_wayOf (sk := sk) (o := o) hT hc hro hsk (fun a v g hfx => ?_)
        have hmn := mnN_le (a := a) 5
        rw [hwy a hfx] at hmn ⊢
        refine Cont.v ?_
        refine wp_sipush (v := nI 1000) (pc' := 41) rfl rfl rfl ?_
        first | refine wp_idivN (pc' := 42) rfl (by with_reducible rfl) (by with_reducible rfl) (by omega) (by omega) (by omega) rfl ?_ | refine wp_idiv (pc' := 42) rfl (by decide) rfl ?_
        refine wp_iconst (v := nI 4) (pc' := 43) rfl rfl rfl ?_
        refine wp_aload0 (pc' := 44) rfl rfl ?_
        refine wp_iload1 (pc' := 45) rfl rfl ?_
        refine wp_iconst (v := nI 0) (pc' := 46) rfl rfl rfl ?_
        refine wp_callV3 (pc' := 49) rfl rfl rfl rfl rfl (by first | exact TK.k1 hT rfl | exact TK.kk hT rfl | exact TK.r hT rfl | assumption) rfl rfl ?_
        refine m_ofH hT hh (by decide) ?_
        rw [upr_ne (show (319 : Nat) ≠ 326 by decide), upr_ne (show (319 : Nat) ≠ 328 by decide)]
        refine Cont.v ?_
        first | refine wp_imulN (pc' := 50) rfl (by with_reducible rfl) (by with_reducible rfl) rfl ?_ | refine wp_imul (pc' := 50) rfl rfl ?_
        refine wp_icmpgt (pc' := 53) rfl rfl ?_ ?_
        · intro h50
          refine wp_iconst (v := nI 0) (pc' := 58) rfl rfl rfl ?_
          refine wp_iret rfl rfl (by first | rfl | exact nar_if) ?_
          first | exact Qv (kk _ KpS.rfl' rfl) (by rw [if_neg (show ¬ carP (I 319) h c wy from fun q => h6 q.1)]) rfl | exact Qv (kk _ KpS.rfl' rfl) (by rw [if_neg (show ¬ carP (I 319) h c wy from fun q => q.2.1 h17)]) rfl | exact Qv (kk _ KpS.rfl' rfl) (by rw [if_neg (show ¬ carP (I 319) h c wy from fun q => h30 q.2.2.1)]) rfl | exact Qv (kk _ ((KpS.rfl'.upr (b := 328) (by omega)).upr (b := 326) (by omega)) (by rw [upr_ne (by decide), upr_ne (by decide)])) (by rw [if_pos (show carP (I 319) h c wy from And.intro h6 (And.intro h17 (And.intro h30 h50)))]) rfl | exact Qv (kk _ ((KpS.rfl'.upr (b := 328) (by omega)).upr (b := 326) (by omega)) (by rw [upr_ne (by decide), upr_ne (by decide)])) (by rw [if_neg (show ¬ carP (I 319) h c wy from fun q => q.2.2.2 h50)]) rfl
        · intro h50
          refine wp_iconst (v := nI 1) (pc' := 54) rfl rfl rfl ?_
          refine wp_goto rfl ?_
          refine wp_iret rfl rfl (by first | rfl | exact nar_if) ?_
          first | exact Qv (kk _ KpS.rfl' rfl) (by rw [if_neg (show ¬ carP (I 319) h c wy from fun q => h6 q.1)]) rfl | exact Qv (kk _ KpS.rfl' rfl) (by rw [if_neg (show ¬ carP (I 319) h c wy from fun q => q.2.1 h17)]) rfl | exact Qv (kk _ KpS.rfl' rfl) (by rw [if_neg (show ¬ carP (I 319) h c wy from fun q => h30 q.2.2.1)]) rfl | exact Qv (kk _ ((KpS.rfl'.upr (b := 328) (by omega)).upr (b := 326) (by omega)) (by rw [upr_ne (by decide), upr_ne (by decide)])) (by rw [if_pos (show carP (I 319) h c wy from And.intro h6 (And.intro h17 (And.intro h30 h50)))]) rfl | exact Qv (kk _ ((KpS.rfl'.upr (b := 328) (by omega)).upr (b := 326) (by omega)) (by rw [upr_ne (by decide), upr_ne (by decide)])) (by rw [if_neg (show ¬ carP (I 319) h c wy from fun q => q.2.2.2 h50)]) rfl
theorem m_cart {d : Nat} {K : Nat → Nat × Nat} {I : Nat → Nat → Int32} {L : Nat → Nat → Int64} {R : Nat → Nat → Option Nat} {n s : Nat} {Q : Lo → Lm → Prop} {A h c : Nat} (hT : TK K R n) {H : Nat} (hw : I 319 0 = nI H) (hH6 : H ≤ 6) (hA : I 318 7 = nI A) (hA12 : A ≤ 12) (hh : h < H) (hc : c < 25) {o : RwT} (hro : RO (I 319) o) {sk : Nat → Nat} (hsk : ∀ q, q < 25 → rsink (I 319) q o = nI (sk q) ∧ sk q ≤ 90000) {wy : Nat} (hwy : ∀ a, FixI (wayK sk c) (wayU sk) a → mnN a 5 = wy) (hcp : carP (I 319) h c wy) (kk : ∀ J, ActJ A I J (carW (I 319) h c) → Q (.inl (some (.int (jmin (nI 999) (I 319 (159 + 4 * h + 2) + I 319 (9 + 6 * c + 3)))))) (K, J, L, R, n, s)) : Ok (d + 11) 298 [.ref 318, .int (nI h), .int (nI c)] (K, I, L, R, n, s) Q := by
  obtain ⟨-, -, hn⟩ := id hT
  refine Ok.enter (F := F_298) (ls := [.ref 318, .int (nI h), .int (nI c), lDead]) rfl rfl ?_
  refine wp_aload0 (pc' := 1) rfl rfl ?_
  refine wp_iload1 (pc' := 2) rfl rfl ?_
  refine wp_iload2 (pc' := 3) rfl rfl ?_
  refine wp_callV3 (pc' := 6) rfl rfl rfl rfl rfl (by first | exact TK.k1 hT rfl | exact TK.kk hT rfl | exact TK.r hT rfl | assumption) rfl rfl ?_
  refine m_noSuch1 hT hw hH6 hh hc ?_
  obtain ⟨M, hM⟩ : ∃ M, M = up2 I 318 0 (nI 0) := ⟨_, rfl⟩
  have hM9 : M 319 = I 319 := by rw [hM]; exact up2_row (by decide)
  have hM7 : M 318 7 = I 318 7 := by rw [hM, up2_same, if_neg (by decide)]
  rw [← hM]
  refine Cont.v ?_
  refine wp_ifneF (pc' := 9) rfl rfl rfl ?_
  refine wp_aload0 (pc' := 10) rfl rfl ?_
  refine wp_aload0 (pc' := 11) rfl rfl ?_
  refine wp_iload1 (pc' := 12) rfl rfl ?_
  refine wp_iload2 (pc' := 13) rfl rfl ?_
  refine wp_callV3 (pc' := 16) rfl rfl rfl rfl rfl (by first | exact TK.k1 hT rfl | exact TK.kk hT rfl | exact TK.r hT rfl | assumption) rfl rfl ?_
  refine m_canCart (sk := sk) (o := o) (wy := wy) hT (by omega) hc (by rw [hM9]; exact hro) (by rw [hM9]; exact hsk) hwy (fun X hX hX9 => ?_)
  rw [hM9] at hX9
  have hX7 : X 318 7 = nI A := by rw [hX 318 (by omega), hM7]; exact hA
  rw [hM9, if_pos hcp]
  refine Cont.v ?_
  refine wp_ifneT rfl (by decide) ?_
  refine wp_iconst (v := nI 0) (pc' := 24) rfl rfl rfl ?_
  refine wp_iconst (v := nI 2) (pc' := 25) rfl rfl rfl ?_
  refine wp_callV3 (pc' := 28) rfl rfl rfl rfl rfl (by first | exact TK.k1 hT rfl | exact TK.kk hT rfl | exact TK.r hT rfl | assumption) rfl rfl ?_
  refine m_tfN hT ?_
  refine Cont.v ?_
  refine wp_ifeqT rfl rfl ?_
  refine wp_aload0 (pc' := 34) rfl rfl ?_
  refine wp_callV1 (pc' := 37) rfl rfl rfl rfl rfl (by first | exact TK.k1 hT rfl | exact TK.kk hT rfl | exact TK.r hT rfl | assumption) rfl rfl ?_
  refine m_remembers hT hX7 hA12 (fun J hJ => ?_)
  have hJ9 : J 319 = I 319 := (hJ.1 319 (by decide) (by decide)).trans hX9
  refine Cont.u ?_
  refine wp_aload0 (pc' := 38) rfl rfl ?_
  refine wp_iload2 (pc' := 39) rfl rfl ?_
  refine wp_iconst (v := nI 3) (pc' := 40) rfl rfl rfl ?_
  refine wp_callV3 (pc' := 43) rfl rfl rfl rfl rfl (by first | exact TK.k1 hT rfl | exact TK.kk hT rfl | exact TK.r hT rfl | assumption) rfl rfl ?_
  refine m_of hT hc (by decide) ?_
  rw [hJ9]
  refine Cont.v ?_
  refine wp_istore3 (pc' := 44) rfl (by first | rfl | assumption) rfl ?_
  refine wp_aload0 (pc' := 45) rfl rfl ?_
  refine wp_getRF (pc' := 48) rfl rfl (by first | exact TK.k1 hT rfl | exact TK.kk hT rfl | exact TK.r hT rfl | assumption) (by first | exact TK.k1 hT rfl | exact TK.kk hT rfl | exact TK.r hT rfl | assumption) rfl ?_
  refine wp_iload1 (pc' := 49) rfl rfl ?_
  refine wp_iconst (v := nI 2) (pc' := 50) rfl rfl rfl ?_
  refine wp_callS2 (pc' := 53) rfl rfl rfl rfl rfl rfl ?_
  refine m_hearthAt ?_
  refine Cont.v ?_
  refine wp_sipush (v := nI 999) (pc' := 56) rfl rfl rfl ?_
  refine wp_aload0 (pc' := 57) rfl rfl ?_
  refine wp_iload1 (pc' := 58) rfl rfl ?_
  refine wp_iconst (v := nI 2) (pc' := 59) rfl rfl rfl ?_
  refine wp_callV3 (pc' := 62) rfl rfl rfl rfl rfl (by first | exact TK.k1 hT rfl | exact TK.kk hT rfl | exact TK.r hT rfl | assumption) rfl rfl ?_
  refine m_ofH hT (by omega) (by decide) ?_
  rw [hJ9]
  refine Cont.v ?_
  refine wp_iload3 (pc' := 63) rfl rfl ?_
  first | refine wp_iaddN (pc' := 64) rfl (by with_reducible rfl) (by with_reducible rfl) rfl ?_ | refine wp_iadd (pc' := 64) rfl rfl ?_
  refine wp_min (pc' := 67) rfl rfl rfl rfl ?_
  refine wp_iast _ (pc' := 68) rfl (by first | exact TK.k1 hT rfl | exact TK.kk hT rfl | exact TK.r hT rfl | assumption) (by omega) (by with_reducible rfl) (by omega) (by first | decide | assumption | omega) rfl ?_
  refine wp_aload0 (pc' := 69) rfl rfl ?_
  refine wp_getRF (pc' := 72) rfl rfl (by first | exact TK.k1 hT rfl | exact TK.kk hT rfl | exact TK.r hT rfl | assumption) (by first | exact TK.k1 hT rfl | exact TK.kk hT rfl | exact TK.r hT rfl | assumption) rfl ?_
  refine wp_iload2 (pc' := 73) rfl rfl ?_
  refine wp_iconst (v := nI 3) (pc' := 74) rfl rfl rfl ?_
  refine wp_callS2 (pc' := 77) rfl rfl rfl rfl rfl rfl ?_
  refine m_at ?_
  refine Cont.v ?_
  refine wp_iconst (v := nI 0) (pc' := 78) rfl rfl rfl ?_
  refine wp_iast _ (pc' := 79) rfl (by first | exact TK.k1 hT rfl | exact TK.kk hT rfl | exact TK.r hT rfl | assumption) (by omega) (by with_reducible rfl) (by omega) (by first | decide | assumption | omega) rfl ?_
  refine wp_aload0 (pc' := 80) rfl rfl ?_
  refine wp_getRF (pc' := 83) rfl rfl (by first | exact TK.k1 hT rfl | exact TK.kk hT rfl | exact TK.r hT rfl | assumption) (by first | exact TK.k1 hT rfl | exact TK.kk hT rfl | exact TK.r hT rfl | assumption) rfl ?_
  refine wp_iload2 (pc' := 84) rfl rfl ?_
  refine wp_iconst (v := nI 4) (pc' := 85) rfl rfl rfl ?_
  refine wp_callS2 (pc' := 88) rfl rfl rfl rfl rfl rfl ?_
  refine m_at ?_
  refine Cont.v ?_
  refine wp_iconst (v := nI 0) (pc' := 89) rfl rfl rfl ?_
  refine wp_iast _ (pc' := 90) rfl (by first | exact TK.k1 hT rfl | exact TK.kk hT rfl | exact TK.r hT rfl | assumption) (by omega) (by with_reducible rfl) (by omega) (by first | decide | assumption | omega) rfl ?_
  refine wp_aload0 (pc' := 91) rfl rfl ?_
  refine wp_getRF (pc' := 94) rfl rfl (by first | exact TK.k1 hT rfl | exact TK.kk hT rfl | exact TK.r hT rfl | assumption) (by first | exact TK.k1 hT rfl | exact TK.kk hT rfl | exact TK.r hT rfl | assumption) rfl ?_
  refine wp_iload2 (pc' := 95) rfl rfl ?_
  refine wp_iconst (v := nI 5) (pc' := 96) rfl rfl rfl ?_
  refine wp_callS2 (pc' := 99) rfl rfl rfl rfl rfl rfl ?_
  refine m_at ?_
  refine Cont.v ?_
  refine wp_iconst (v := nI 0) (pc' := 100) rfl rfl rfl ?_
  refine wp_iast _ (pc' := 101) rfl (by first | exact TK.k1 hT rfl | exact TK.kk hT rfl | exact TK.r hT rfl | assumption) (by omega) (by with_reducible rfl) (by omega) (by first | decide | assumption | omega) rfl ?_
  refine wp_aload0 (pc' := 102) rfl rfl ?_
  refine wp_iload1 (pc' := 103) rfl rfl ?_
  refine wp_iload2 (pc' := 104) rfl rfl ?_
  refine wp_iconst (v := nI 2) (pc' := 105) rfl rfl rfl ?_
  refine wp_iload3 (pc' := 106) rfl rfl ?_
  refine wp_callV5 (pc' := 109) rfl rfl rfl rfl rfl (by first | exact TK.k1 hT rfl | exact TK.kk hT rfl | exact TK.r hT rfl | assumption) rfl rfl ?_
  refine m_isTold hT ?_
  simp only [up2_as, upr_upr, upr_same, hJ9]
  refine Cont.u ?_
  refine wp_aload0 (pc' := 110) rfl rfl ?_
  refine wp_iload1 (pc' := 111) rfl rfl ?_
  refine wp_iconst (v := nI 2) (pc' := 112) rfl rfl rfl ?_
  refine wp_callV3 (pc' := 115) rfl rfl rfl rfl rfl (by first | exact TK.k1 hT rfl | exact TK.kk hT rfl | exact TK.r hT rfl | assumption) rfl rfl ?_
  refine m_ofH hT (by omega) (by decide) ?_
  rw [upr_same, tolW_lo (by omega) (by omega), up1_ne (by omega), up1_ne (by omega), up1_ne (by omega), up1_hit]
  refine Cont.v ?_
  refine wp_iret rfl rfl rfl ?_
  rw [hM] at hX
  exact kk _ (act_mkX hX hX9 hJ (KpS.rfl'.upr (by omega)) upr_same)
theorem m_cartE1 {d : Nat} {K : Nat → Nat × Nat} {I : Nat → Nat → Int32} {L : Nat → Nat → Int64} {R : Nat → Nat → Option Nat} {n s : Nat} {Q : Lo → Lm → Prop} {x y : Int32} (hT : TK K R n) {H : Nat} (hw : I 319 0 = nI H) (hH6 : H ≤ 6) (hxy : ¬ (InR x H ∧ InR y 25)) (kk : Q (.inl (some (.int (nI 0)))) (K, up2 I 318 0 (nI 1), L, R, n, s)) : Ok (d + 11) 298 [.ref 318, .int x, .int y] (K, I, L, R, n, s) Q := by
  obtain ⟨-, -, hn⟩ := id hT
  refine Ok.enter (F := F_298) (ls := [.ref 318, .int x, .int y, lDead]) rfl rfl ?_
  refine wp_aload0 (pc' := 1) rfl rfl ?_
  refine wp_iload1 (pc' := 2) rfl rfl ?_
  refine wp_iload2 (pc' := 3) rfl rfl ?_
  refine wp_callV3 (pc' := 6) rfl rfl rfl rfl rfl (by first | exact TK.k1 hT rfl | exact TK.kk hT rfl | exact TK.r hT rfl | assumption) rfl rfl ?_
  refine m_noSuch0 hT hw hH6 hxy ?_
  refine Cont.v ?_
  refine wp_ifneT rfl (by decide) ?_
  refine wp_iconst (v := nI 0) (pc' := 32) rfl rfl rfl ?_
  refine wp_iret rfl rfl rfl ?_
  exact kk
/-- an ask's frame, with a word thrown -/
def ThrJ (k : Nat) (I J : Mem) : Prop := (∀ a, (a < 318 ∨ a = 320 ∨ a = 321 ∨ a = 323 ∨ a = 324 ∨ 337 ≤ a) → J a = I a) ∧ (∀ j, j ≠ 0 → J 318 j = I 318 j) ∧ J 318 0 = nI k ∧ J 319 = I 319
theorem thr_mk {k : Nat} {I X : Mem} (h : KpS (up2 I 318 0 (nI 0)) X) (h9 : X 319 = I 319) : ThrJ k I (up2 X 318 0 (nI k)) :=
  ⟨fun a ha => by rw [up2_ne (by omega), h a (by omega), up2_ne (by omega)], fun j hj => by rw [up2_same, if_neg hj, h 318 (by omega), up2_same, if_neg hj], by rw [up2_hit], by rw [up2_ne (by decide)]; exact h9⟩

theorem m_cartE2 {d : Nat} {K : Nat → Nat × Nat} {I : Nat → Nat → Int32} {L : Nat → Nat → Int64} {R : Nat → Nat → Option Nat} {n s : Nat} {Q : Lo → Lm → Prop} {h c : Nat} (hT : TK K R n) {H : Nat} (hw : I 319 0 = nI H) (hH6 : H ≤ 6) (hh : h < H) (hc : c < 25) {o : RwT} (hro : RO (I 319) o) {sk : Nat → Nat} (hsk : ∀ q, q < 25 → rsink (I 319) q o = nI (sk q) ∧ sk q ≤ 90000) {wy : Nat} (hwy : ∀ a, FixI (wayK sk c) (wayU sk) a → mnN a 5 = wy) (hcp : ¬ carP (I 319) h c wy) (kk : ∀ J, ThrJ 2 I J → Q (.inl (some (.int (nI 0)))) (K, J, L, R, n, s)) : Ok (d + 11) 298 [.ref 318, .int (nI h), .int (nI c)] (K, I, L, R, n, s) Q := by
  obtain ⟨-, -, hn⟩ := id hT
  refine Ok.enter (F := F_298) (ls := [.ref 318, .int (nI h), .int (nI c), lDead]) rfl rfl ?_
  refine wp_aload0 (pc' := 1) rfl rfl ?_
  refine wp_iload1 (pc' := 2) rfl rfl ?_
  refine wp_iload2 (pc' := 3) rfl rfl ?_
  refine wp_callV3 (pc' := 6) rfl rfl rfl rfl rfl (by first | exact TK.k1 hT rfl | exact TK.kk hT rfl | exact TK.r hT rfl | assumption) rfl rfl ?_
  refine m_noSuch1 hT hw hH6 hh hc ?_
  obtain ⟨M, hM⟩ : ∃ M, M = up2 I 318 0 (nI 0) := ⟨_, rfl⟩
  have hM9 : M 319 = I 319 := by rw [hM]; exact up2_row (by decide)
  have hM7 : M 318 7 = I 318 7 := by rw [hM, up2_same, if_neg (by decide)]
  rw [← hM]
  refine Cont.v ?_
  refine wp_ifneF (pc' := 9) rfl rfl rfl ?_
  refine wp_aload0 (pc' := 10) rfl rfl ?_
  refine wp_aload0 (pc' := 11) rfl rfl ?_
  refine wp_iload1 (pc' := 12) rfl rfl ?_
  refine wp_iload2 (pc' := 13) rfl rfl ?_
  refine wp_callV3 (pc' := 16) rfl rfl rfl rfl rfl (by first | exact TK.k1 hT rfl | exact TK.kk hT rfl | exact TK.r hT rfl | assumption) rfl rfl ?_
  refine m_canCart (sk := sk) (o := o) (wy := wy) hT (by omega) hc (by rw [hM9]; exact hro) (by rw [hM9]; exact hsk) hwy (fun X hX hX9 => ?_)
  rw [hM9] at hX9
  rw [hM9, if_neg hcp]
  refine Cont.v ?_
  refine wp_ifneF (pc' := 19) rfl rfl rfl ?_
  refine wp_iconst (v := nI 1) (pc' := 20) rfl rfl rfl ?_
  refine wp_goto rfl ?_
  refine wp_iconst (v := nI 2) (pc' := 25) rfl rfl rfl ?_
  refine wp_callV3 (pc' := 28) rfl rfl rfl rfl rfl (by first | exact TK.k1 hT rfl | exact TK.kk hT rfl | exact TK.r hT rfl | assumption) rfl rfl ?_
  refine m_tfY hT ?_
  refine Cont.v ?_
  refine wp_ifeqF (pc' := 31) rfl (by decide) rfl ?_
  refine wp_iconst (v := nI 0) (pc' := 32) rfl rfl rfl ?_
  refine wp_iret rfl rfl rfl ?_
  rw [hM] at hX
  exact kk _ (thr_mk hX hX9)
