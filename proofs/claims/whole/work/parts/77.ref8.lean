/-! THE REFERENCE: acts of a hearth -/
theorem m_noSuch1 {d : Nat} {K : Nat → Nat × Nat} {I : Nat → Nat → Int32} {L : Nat → Nat → Int64} {R : Nat → Nat → Option Nat} {n s : Nat} {Q : Lo → Lm → Prop} {h c : Nat} (hT : TK K R n) {H : Nat} (hw : I 319 0 = nI H) (hH6 : H ≤ 6) (hh : h < H) (hc : c < 25) (kk : Q (.inl (some (.int (nI 0)))) (K, up2 I 318 0 (nI 0), L, R, n, s)) : Ok (d + 3) 294 [.ref 318, .int (nI h), .int (nI c)] (K, I, L, R, n, s) Q := by
  obtain ⟨-, -, hn⟩ := id hT
  refine Ok.enter (F := F_294) (ls := [.ref 318, .int (nI h), .int (nI c)]) rfl rfl ?_
  refine wp_aload0 (pc' := 1) rfl rfl ?_
  refine wp_iconst (v := nI 0) (pc' := 2) rfl rfl rfl ?_
  refine wp_putI (pc' := 5) rfl rfl (by first | exact TK.k1 hT rfl | exact TK.kk hT rfl | exact TK.r hT rfl | assumption) (by omega) rfl ?_
  refine wp_aload0 (pc' := 6) rfl rfl ?_
  refine wp_aload0 (pc' := 7) rfl rfl ?_
  refine wp_iload1 (pc' := 8) rfl rfl ?_
  refine wp_callV2 (pc' := 11) rfl rfl rfl rfl rfl (by first | exact TK.k1 hT rfl | exact TK.kk hT rfl | exact TK.r hT rfl | assumption) rfl rfl ?_
  refine m_noH1 hT (by rw [up2_row (by decide)]; exact hw) hH6 hh ?_
  refine Cont.v ?_
  refine wp_ifneF (pc' := 14) rfl rfl rfl ?_
  refine wp_iload2 (pc' := 15) rfl rfl ?_
  refine wp_callS1 (pc' := 18) rfl rfl rfl rfl rfl rfl ?_
  refine m_noCell1 hc ?_
  refine Cont.v ?_
  refine wp_ifeqT rfl rfl ?_
  refine wp_iconst (v := nI 0) (pc' := 26) rfl rfl rfl ?_
  refine wp_iconst (v := nI 1) (pc' := 27) rfl rfl rfl ?_
  refine wp_callV3 (pc' := 30) rfl rfl rfl rfl rfl (by first | exact TK.k1 hT rfl | exact TK.kk hT rfl | exact TK.r hT rfl | assumption) rfl rfl ?_
  refine m_tfN hT ?_
  refine Cont.v ?_
  refine wp_iret rfl rfl (by first | rfl | exact nar_if) ?_
  exact kk
theorem m_noSuchH {d : Nat} {K : Nat → Nat × Nat} {I : Nat → Nat → Int32} {L : Nat → Nat → Int64} {R : Nat → Nat → Option Nat} {n s : Nat} {Q : Lo → Lm → Prop} {x y : Int32} (hT : TK K R n) {H : Nat} (hw : I 319 0 = nI H) (hH6 : H ≤ 6) (hx : ¬ InR x H) (kk : Q (.inl (some (.int (nI 1)))) (K, up2 I 318 0 (nI 1), L, R, n, s)) : Ok (d + 3) 294 [.ref 318, .int x, .int y] (K, I, L, R, n, s) Q := by
  obtain ⟨-, -, hn⟩ := id hT
  refine Ok.enter (F := F_294) (ls := [.ref 318, .int x, .int y]) rfl rfl ?_
  refine wp_aload0 (pc' := 1) rfl rfl ?_
  refine wp_iconst (v := nI 0) (pc' := 2) rfl rfl rfl ?_
  refine wp_putI (pc' := 5) rfl rfl (by first | exact TK.k1 hT rfl | exact TK.kk hT rfl | exact TK.r hT rfl | assumption) (by omega) rfl ?_
  refine wp_aload0 (pc' := 6) rfl rfl ?_
  refine wp_aload0 (pc' := 7) rfl rfl ?_
  refine wp_iload1 (pc' := 8) rfl rfl ?_
  refine wp_callV2 (pc' := 11) rfl rfl rfl rfl rfl (by first | exact TK.k1 hT rfl | exact TK.kk hT rfl | exact TK.r hT rfl | assumption) rfl rfl ?_
  refine m_noH0 hT (by rw [up2_row (by decide)]; exact hw) hH6 hx ?_
  refine Cont.v ?_
  refine wp_ifneT rfl (by decide) ?_
  refine wp_iconst (v := nI 1) (pc' := 22) rfl rfl rfl ?_
  refine wp_goto rfl ?_
  refine wp_iconst (v := nI 1) (pc' := 27) rfl rfl rfl ?_
  refine wp_callV3 (pc' := 30) rfl rfl rfl rfl rfl (by first | exact TK.k1 hT rfl | exact TK.kk hT rfl | exact TK.r hT rfl | assumption) rfl rfl ?_
  refine m_tfY hT ?_
  refine Cont.v ?_
  refine wp_iret rfl rfl (by first | rfl | exact nar_if) ?_
  rw [up318]
  exact kk
theorem m_noSuchC {d : Nat} {K : Nat → Nat × Nat} {I : Nat → Nat → Int32} {L : Nat → Nat → Int64} {R : Nat → Nat → Option Nat} {n s : Nat} {Q : Lo → Lm → Prop} {h : Nat} {x : Int32} (hT : TK K R n) {H : Nat} (hw : I 319 0 = nI H) (hH6 : H ≤ 6) (hh : h < H) (hx : ¬ InR x 25) (kk : Q (.inl (some (.int (nI 1)))) (K, up2 I 318 0 (nI 1), L, R, n, s)) : Ok (d + 3) 294 [.ref 318, .int (nI h), .int x] (K, I, L, R, n, s) Q := by
  obtain ⟨-, -, hn⟩ := id hT
  refine Ok.enter (F := F_294) (ls := [.ref 318, .int (nI h), .int x]) rfl rfl ?_
  refine wp_aload0 (pc' := 1) rfl rfl ?_
  refine wp_iconst (v := nI 0) (pc' := 2) rfl rfl rfl ?_
  refine wp_putI (pc' := 5) rfl rfl (by first | exact TK.k1 hT rfl | exact TK.kk hT rfl | exact TK.r hT rfl | assumption) (by omega) rfl ?_
  refine wp_aload0 (pc' := 6) rfl rfl ?_
  refine wp_aload0 (pc' := 7) rfl rfl ?_
  refine wp_iload1 (pc' := 8) rfl rfl ?_
  refine wp_callV2 (pc' := 11) rfl rfl rfl rfl rfl (by first | exact TK.k1 hT rfl | exact TK.kk hT rfl | exact TK.r hT rfl | assumption) rfl rfl ?_
  refine m_noH1 hT (by rw [up2_row (by decide)]; exact hw) hH6 hh ?_
  refine Cont.v ?_
  refine wp_ifneF (pc' := 14) rfl rfl rfl ?_
  refine wp_iload2 (pc' := 15) rfl rfl ?_
  refine wp_callS1 (pc' := 18) rfl rfl rfl rfl rfl rfl ?_
  refine m_noCell0 hx ?_
  refine Cont.v ?_
  refine wp_ifeqF (pc' := 21) rfl (by decide) rfl ?_
  refine wp_iconst (v := nI 1) (pc' := 22) rfl rfl rfl ?_
  refine wp_goto rfl ?_
  refine wp_iconst (v := nI 1) (pc' := 27) rfl rfl rfl ?_
  refine wp_callV3 (pc' := 30) rfl rfl rfl rfl rfl (by first | exact TK.k1 hT rfl | exact TK.kk hT rfl | exact TK.r hT rfl | assumption) rfl rfl ?_
  refine m_tfY hT ?_
  refine Cont.v ?_
  refine wp_iret rfl rfl (by first | rfl | exact nar_if) ?_
  rw [up318]
  exact kk
theorem m_noSuch0 {d : Nat} {K : Nat → Nat × Nat} {I : Mem} {L : Nat → Nat → Int64} {R : Nat → Nat → Option Nat} {n s : Nat} {Q : Lo → Lm → Prop} {x y : Int32} (hT : TK K R n) {H : Nat} (hw : I 319 0 = nI H) (hH6 : H ≤ 6) (hxy : ¬ (InR x H ∧ InR y 25)) (kk : Q (.inl (some (.int (nI 1)))) (K, up2 I 318 0 (nI 1), L, R, n, s)) : Ok (d + 3) 294 [.ref 318, .int x, .int y] (K, I, L, R, n, s) Q := by
  by_cases h : InR x H
  · obtain ⟨k, hk, rfl⟩ := id h
    exact m_noSuchC hT hw hH6 hk (fun q => hxy ⟨h, q⟩) kk
  · exact m_noSuchH hT hw hH6 h kk

theorem m_cut {d : Nat} {K : Nat → Nat × Nat} {I : Nat → Nat → Int32} {L : Nat → Nat → Int64} {R : Nat → Nat → Option Nat} {n s : Nat} {Q : Lo → Lm → Prop} {A h c : Nat} (hT : TK K R n) {H : Nat} (hw : I 319 0 = nI H) (hH6 : H ≤ 6) (hA : I 318 7 = nI A) (hA12 : A ≤ 12) (hh : h < H) (hc : c < 25) (hwo : WOk (I 319) H) (ho : openQ (Sv (I 319)) c) (hr : hasP (I 319 (159 + 4 * h + 3)) c) (kk : ∀ J, ActJ A I J (cutW (I 319) h c (nI 1)) → Q (.inl (some (.int (I 319 (9 + 6 * c + 3) + I 319 (159 + 4 * h + 0))))) (K, J, L, R, n, s)) : Ok (d + 5) 293 [.ref 318, .int (nI h), .int (nI c)] (K, I, L, R, n, s) Q := by
  obtain ⟨-, -, hn⟩ := id hT
  refine Ok.enter (F := F_293) (ls := [.ref 318, .int (nI h), .int (nI c)]) rfl rfl ?_
  refine wp_aload0 (pc' := 1) rfl rfl ?_
  refine wp_iload1 (pc' := 2) rfl rfl ?_
  refine wp_iload2 (pc' := 3) rfl rfl ?_
  refine wp_callV3 (pc' := 6) rfl rfl rfl rfl rfl (by first | exact TK.k1 hT rfl | exact TK.kk hT rfl | exact TK.r hT rfl | assumption) rfl rfl ?_
  refine m_noSuch1 hT hw hH6 hh hc ?_
  obtain ⟨M, hM⟩ : ∃ M, M = up2 I 318 0 (nI 0) := ⟨_, rfl⟩
  have hM9 : M 319 = I 319 := by rw [hM]; exact up2_row (by decide)
  have hM7 : M 318 7 = I 318 7 := by rw [hM, up2_same, if_neg (by decide)]
  rw [← hM]
  refine Cont.v ?_
  refine wp_ifneF (pc' := 9) rfl rfl rfl ?_
  refine wp_aload0 (pc' := 10) rfl rfl ?_
  refine wp_aload0 (pc' := 11) rfl rfl ?_
  refine wp_iload2 (pc' := 12) rfl rfl ?_
  refine wp_callV2 (pc' := 15) rfl rfl rfl rfl rfl (by first | exact TK.k1 hT rfl | exact TK.kk hT rfl | exact TK.r hT rfl | assumption) rfl rfl ?_
  refine m_isOpen hT hc ?_
  rw [hM9, if_pos ho]
  refine Cont.v ?_
  refine wp_ifeqF (pc' := 18) rfl (by decide) rfl ?_
  refine wp_aload0 (pc' := 19) rfl rfl ?_
  refine wp_iload1 (pc' := 20) rfl rfl ?_
  refine wp_iconst (v := nI 3) (pc' := 21) rfl rfl rfl ?_
  refine wp_callV3 (pc' := 24) rfl rfl rfl rfl rfl (by first | exact TK.k1 hT rfl | exact TK.kk hT rfl | exact TK.r hT rfl | assumption) rfl rfl ?_
  refine m_ofH hT (by omega) (by decide) ?_
  rw [hM9]
  refine Cont.v ?_
  refine wp_iload2 (pc' := 25) rfl rfl ?_
  refine wp_callS2 (pc' := 28) rfl rfl rfl rfl rfl rfl ?_
  refine m_has ?_
  rw [if_pos hr]
  refine Cont.v ?_
  refine wp_ifneT rfl (by decide) ?_
  refine wp_iconst (v := nI 0) (pc' := 36) rfl rfl rfl ?_
  refine wp_iconst (v := nI 2) (pc' := 37) rfl rfl rfl ?_
  refine wp_callV3 (pc' := 40) rfl rfl rfl rfl rfl (by first | exact TK.k1 hT rfl | exact TK.kk hT rfl | exact TK.r hT rfl | assumption) rfl rfl ?_
  refine m_tfN hT ?_
  refine Cont.v ?_
  refine wp_ifeqT rfl rfl ?_
  refine wp_aload0 (pc' := 46) rfl rfl ?_
  refine wp_callV1 (pc' := 49) rfl rfl rfl rfl rfl (by first | exact TK.k1 hT rfl | exact TK.kk hT rfl | exact TK.r hT rfl | assumption) rfl rfl ?_
  refine m_remembers hT (by rw [hM7]; exact hA) hA12 (fun J hJ => ?_)
  have hJ9 : J 319 = I 319 := (hJ.1 319 (by decide) (by decide)).trans hM9
  rw [hM] at hJ
  refine Cont.u ?_
  refine wp_aload0 (pc' := 50) rfl rfl ?_
  refine wp_iload1 (pc' := 51) rfl rfl ?_
  refine wp_iload2 (pc' := 52) rfl rfl ?_
  refine wp_iconst (v := nI 1) (pc' := 53) rfl rfl rfl ?_
  refine wp_callV4 (pc' := 56) rfl rfl rfl rfl rfl (by first | exact TK.k1 hT rfl | exact TK.kk hT rfl | exact TK.r hT rfl | assumption) rfl rfl ?_
  refine m_isCut hT (by omega) hc (by rw [hJ9]; exact WOk_z hh hc hwo) ?_
  rw [hJ9]
  refine Cont.v ?_
  refine wp_iret rfl rfl rfl ?_
  exact kk _ (act_mk hJ (KpS.rfl'.upr (by omega)) upr_same)
theorem m_cutE1 {d : Nat} {K : Nat → Nat × Nat} {I : Nat → Nat → Int32} {L : Nat → Nat → Int64} {R : Nat → Nat → Option Nat} {n s : Nat} {Q : Lo → Lm → Prop} {x y : Int32} (hT : TK K R n) {H : Nat} (hw : I 319 0 = nI H) (hH6 : H ≤ 6) (hxy : ¬ (InR x H ∧ InR y 25)) (kk : Q (.inl (some (.int (nI 0)))) (K, up2 I 318 0 (nI 1), L, R, n, s)) : Ok (d + 5) 293 [.ref 318, .int x, .int y] (K, I, L, R, n, s) Q := by
  obtain ⟨-, -, hn⟩ := id hT
  refine Ok.enter (F := F_293) (ls := [.ref 318, .int x, .int y]) rfl rfl ?_
  refine wp_aload0 (pc' := 1) rfl rfl ?_
  refine wp_iload1 (pc' := 2) rfl rfl ?_
  refine wp_iload2 (pc' := 3) rfl rfl ?_
  refine wp_callV3 (pc' := 6) rfl rfl rfl rfl rfl (by first | exact TK.k1 hT rfl | exact TK.kk hT rfl | exact TK.r hT rfl | assumption) rfl rfl ?_
  refine m_noSuch0 hT hw hH6 hxy ?_
  refine Cont.v ?_
  refine wp_ifneT rfl (by decide) ?_
  refine wp_iconst (v := nI 0) (pc' := 44) rfl rfl rfl ?_
  refine wp_iret rfl rfl rfl ?_
  exact kk
theorem m_cutE2o {d : Nat} {K : Nat → Nat × Nat} {I : Nat → Nat → Int32} {L : Nat → Nat → Int64} {R : Nat → Nat → Option Nat} {n s : Nat} {Q : Lo → Lm → Prop} {h c : Nat} (hT : TK K R n) {H : Nat} (hw : I 319 0 = nI H) (hH6 : H ≤ 6) (hh : h < H) (hc : c < 25) (ho : ¬ openQ (Sv (I 319)) c) (kk : Q (.inl (some (.int (nI 0)))) (K, up2 I 318 0 (nI 2), L, R, n, s)) : Ok (d + 5) 293 [.ref 318, .int (nI h), .int (nI c)] (K, I, L, R, n, s) Q := by
  obtain ⟨-, -, hn⟩ := id hT
  refine Ok.enter (F := F_293) (ls := [.ref 318, .int (nI h), .int (nI c)]) rfl rfl ?_
  refine wp_aload0 (pc' := 1) rfl rfl ?_
  refine wp_iload1 (pc' := 2) rfl rfl ?_
  refine wp_iload2 (pc' := 3) rfl rfl ?_
  refine wp_callV3 (pc' := 6) rfl rfl rfl rfl rfl (by first | exact TK.k1 hT rfl | exact TK.kk hT rfl | exact TK.r hT rfl | assumption) rfl rfl ?_
  refine m_noSuch1 hT hw hH6 hh hc ?_
  refine Cont.v ?_
  refine wp_ifneF (pc' := 9) rfl rfl rfl ?_
  refine wp_aload0 (pc' := 10) rfl rfl ?_
  refine wp_aload0 (pc' := 11) rfl rfl ?_
  refine wp_iload2 (pc' := 12) rfl rfl ?_
  refine wp_callV2 (pc' := 15) rfl rfl rfl rfl rfl (by first | exact TK.k1 hT rfl | exact TK.kk hT rfl | exact TK.r hT rfl | assumption) rfl rfl ?_
  refine m_isOpen hT hc ?_
  rw [up2_row (by decide), if_neg ho]
  refine Cont.v ?_
  refine wp_ifeqT rfl rfl ?_
  refine wp_iconst (v := nI 1) (pc' := 32) rfl rfl rfl ?_
  refine wp_goto rfl ?_
  refine wp_iconst (v := nI 2) (pc' := 37) rfl rfl rfl ?_
  refine wp_callV3 (pc' := 40) rfl rfl rfl rfl rfl (by first | exact TK.k1 hT rfl | exact TK.kk hT rfl | exact TK.r hT rfl | assumption) rfl rfl ?_
  refine m_tfY hT ?_
  refine Cont.v ?_
  refine wp_ifeqF (pc' := 43) rfl (by decide) rfl ?_
  refine wp_iconst (v := nI 0) (pc' := 44) rfl rfl rfl ?_
  refine wp_iret rfl rfl rfl ?_
  rw [up318]
  exact kk
theorem m_cutE2r {d : Nat} {K : Nat → Nat × Nat} {I : Nat → Nat → Int32} {L : Nat → Nat → Int64} {R : Nat → Nat → Option Nat} {n s : Nat} {Q : Lo → Lm → Prop} {h c : Nat} (hT : TK K R n) {H : Nat} (hw : I 319 0 = nI H) (hH6 : H ≤ 6) (hh : h < H) (hc : c < 25) (ho : openQ (Sv (I 319)) c) (hr : ¬ hasP (I 319 (159 + 4 * h + 3)) c) (kk : Q (.inl (some (.int (nI 0)))) (K, up2 I 318 0 (nI 2), L, R, n, s)) : Ok (d + 5) 293 [.ref 318, .int (nI h), .int (nI c)] (K, I, L, R, n, s) Q := by
  obtain ⟨-, -, hn⟩ := id hT
  refine Ok.enter (F := F_293) (ls := [.ref 318, .int (nI h), .int (nI c)]) rfl rfl ?_
  refine wp_aload0 (pc' := 1) rfl rfl ?_
  refine wp_iload1 (pc' := 2) rfl rfl ?_
  refine wp_iload2 (pc' := 3) rfl rfl ?_
  refine wp_callV3 (pc' := 6) rfl rfl rfl rfl rfl (by first | exact TK.k1 hT rfl | exact TK.kk hT rfl | exact TK.r hT rfl | assumption) rfl rfl ?_
  refine m_noSuch1 hT hw hH6 hh hc ?_
  refine Cont.v ?_
  refine wp_ifneF (pc' := 9) rfl rfl rfl ?_
  refine wp_aload0 (pc' := 10) rfl rfl ?_
  refine wp_aload0 (pc' := 11) rfl rfl ?_
  refine wp_iload2 (pc' := 12) rfl rfl ?_
  refine wp_callV2 (pc' := 15) rfl rfl rfl rfl rfl (by first | exact TK.k1 hT rfl | exact TK.kk hT rfl | exact TK.r hT rfl | assumption) rfl rfl ?_
  refine m_isOpen hT hc ?_
  rw [up2_row (by decide), if_pos ho]
  refine Cont.v ?_
  refine wp_ifeqF (pc' := 18) rfl (by decide) rfl ?_
  refine wp_aload0 (pc' := 19) rfl rfl ?_
  refine wp_iload1 (pc' := 20) rfl rfl ?_
  refine wp_iconst (v := nI 3) (pc' := 21) rfl rfl rfl ?_
  refine wp_callV3 (pc' := 24) rfl rfl rfl rfl rfl (by first | exact TK.k1 hT rfl | exact TK.kk hT rfl | exact TK.r hT rfl | assumption) rfl rfl ?_
  refine m_ofH hT (by omega) (by decide) ?_
  rw [up2_row (by decide)]
  refine Cont.v ?_
  refine wp_iload2 (pc' := 25) rfl rfl ?_
  refine wp_callS2 (pc' := 28) rfl rfl rfl rfl rfl rfl ?_
  refine m_has ?_
  rw [if_neg hr]
  refine Cont.v ?_
  refine wp_ifneF (pc' := 31) rfl rfl rfl ?_
  refine wp_iconst (v := nI 1) (pc' := 32) rfl rfl rfl ?_
  refine wp_goto rfl ?_
  refine wp_iconst (v := nI 2) (pc' := 37) rfl rfl rfl ?_
  refine wp_callV3 (pc' := 40) rfl rfl rfl rfl rfl (by first | exact TK.k1 hT rfl | exact TK.kk hT rfl | exact TK.r hT rfl | assumption) rfl rfl ?_
  refine m_tfY hT ?_
  refine Cont.v ?_
  refine wp_ifeqF (pc' := 43) rfl (by decide) rfl ?_
  refine wp_iconst (v := nI 0) (pc' := 44) rfl rfl rfl ?_
  refine wp_iret rfl rfl rfl ?_
  rw [up318]
  exact kk
theorem m_right1 {d : Nat} {K : Nat → Nat × Nat} {I : Nat → Nat → Int32} {L : Nat → Nat → Int64} {R : Nat → Nat → Option Nat} {n s : Nat} {Q : Lo → Lm → Prop} {A h c : Nat} (hT : TK K R n) {H : Nat} (hw : I 319 0 = nI H) (hH6 : H ≤ 6) (hA : I 318 7 = nI A) (hA12 : A ≤ 12) (hh : h < H) (hc : c < 25) (kk : ∀ J, ActJ A I J (up1 (I 319) (159 + 4 * h + 3) (I 319 (159 + 4 * h + 3) &&& (jshl (nI 1) (nI c) ^^^ (-1)) ||| jshl (nI 1) (nI c))) → Q (.inl (some (.int (if I 319 (159 + 4 * h + 3) = (I 319 (159 + 4 * h + 3) &&& (jshl (nI 1) (nI c) ^^^ (-1)) ||| jshl (nI 1) (nI c)) then nI 0 else nI 1)))) (K, J, L, R, n, s)) : Ok (d + 5) 302 [.ref 318, .int (nI h), .int (nI c), .int (nI 1)] (K, I, L, R, n, s) Q := by
  obtain ⟨-, -, hn⟩ := id hT
  refine Ok.enter (F := F_302) (ls := [.ref 318, .int (nI h), .int (nI c), .int (nI 1), lDead]) rfl rfl ?_
  refine wp_aload0 (pc' := 1) rfl rfl ?_
  refine wp_iload1 (pc' := 2) rfl rfl ?_
  refine wp_iload2 (pc' := 3) rfl rfl ?_
  refine wp_callV3 (pc' := 6) rfl rfl rfl rfl rfl (by first | exact TK.k1 hT rfl | exact TK.kk hT rfl | exact TK.r hT rfl | assumption) rfl rfl ?_
  refine m_noSuch1 hT hw hH6 hh hc ?_
  obtain ⟨M, hM⟩ : ∃ M, M = up2 I 318 0 (nI 0) := ⟨_, rfl⟩
  have hM9 : M 319 = I 319 := by rw [hM]; exact up2_row (by decide)
  have hM7 : M 318 7 = I 318 7 := by rw [hM, up2_same, if_neg (by decide)]
  rw [← hM]
  refine Cont.v ?_
  refine wp_ifeqT rfl rfl ?_
  refine wp_aload0 (pc' := 12) rfl rfl ?_
  refine wp_iload1 (pc' := 13) rfl rfl ?_
  refine wp_iconst (v := nI 3) (pc' := 14) rfl rfl rfl ?_
  refine wp_callV3 (pc' := 17) rfl rfl rfl rfl rfl (by first | exact TK.k1 hT rfl | exact TK.kk hT rfl | exact TK.r hT rfl | assumption) rfl rfl ?_
  refine m_ofH hT (by omega) (by decide) ?_
  rw [hM9]
  refine Cont.v ?_
  refine wp_iconst (v := nI 1) (pc' := 18) rfl rfl rfl ?_
  refine wp_iload2 (pc' := 19) rfl rfl ?_
  refine wp_ishl (pc' := 20) rfl rfl ?_
  refine wp_iconst (v := (-1)) (pc' := 21) rfl rfl rfl ?_
  refine wp_ixor (pc' := 22) rfl rfl ?_
  refine wp_iand (pc' := 23) rfl rfl ?_
  refine wp_iload3 (pc' := 24) rfl rfl ?_
  refine wp_ifeqF (pc' := 27) rfl (by decide) rfl ?_
  refine wp_iconst (v := nI 1) (pc' := 28) rfl rfl rfl ?_
  refine wp_iload2 (pc' := 29) rfl rfl ?_
  refine wp_ishl (pc' := 30) rfl rfl ?_
  refine wp_goto rfl ?_
  refine wp_ior (pc' := 35) rfl rfl ?_
  refine wp_istore4 (pc' := 37) rfl (by first | rfl | assumption) rfl ?_
  refine wp_aload0 (pc' := 38) rfl rfl ?_
  refine wp_iload1 (pc' := 39) rfl rfl ?_
  refine wp_iconst (v := nI 3) (pc' := 40) rfl rfl rfl ?_
  refine wp_callS2 (pc' := 43) rfl rfl rfl rfl rfl rfl ?_
  refine m_hearthAt ?_
  refine Cont.v ?_
  refine wp_iload4 (pc' := 45) rfl rfl ?_
  refine wp_callV3 (pc' := 48) rfl rfl rfl rfl rfl (by first | exact TK.k1 hT rfl | exact TK.kk hT rfl | exact TK.r hT rfl | assumption) rfl rfl ?_
  refine m_isNow hT (by rw [hM7]; exact hA) hA12 (by omega) (fun J hJ => ?_)
  rw [hM] at hJ
  rw [hM9]
  refine Cont.v ?_
  refine wp_iload4 (pc' := 50) rfl rfl ?_
  refine wp_icmpeq (pc' := 53) rfl rfl ?_ ?_
  · intro h50
    refine wp_iconst (v := nI 0) (pc' := 58) rfl rfl rfl ?_
    refine wp_iret rfl rfl (by first | rfl | exact nar_if) ?_
    first | exact Qv (kk _ (act_mk hJ (KpS.rfl'.upr (by omega)) upr_same)) (by rw [if_pos h50]) rfl | exact Qv (kk _ (act_mk hJ (KpS.rfl'.upr (by omega)) upr_same)) (by rw [if_neg h50]) rfl
  · intro h50
    refine wp_iconst (v := nI 1) (pc' := 54) rfl rfl rfl ?_
    refine wp_goto rfl ?_
    refine wp_iret rfl rfl (by first | rfl | exact nar_if) ?_
    first | exact Qv (kk _ (act_mk hJ (KpS.rfl'.upr (by omega)) upr_same)) (by rw [if_pos h50]) rfl | exact Qv (kk _ (act_mk hJ (KpS.rfl'.upr (by omega)) upr_same)) (by rw [if_neg h50]) rfl
theorem m_right0 {d : Nat} {K : Nat → Nat × Nat} {I : Nat → Nat → Int32} {L : Nat → Nat → Int64} {R : Nat → Nat → Option Nat} {n s : Nat} {Q : Lo → Lm → Prop} {A h c : Nat} (hT : TK K R n) {H : Nat} (hw : I 319 0 = nI H) (hH6 : H ≤ 6) (hA : I 318 7 = nI A) (hA12 : A ≤ 12) (hh : h < H) (hc : c < 25) (kk : ∀ J, ActJ A I J (up1 (I 319) (159 + 4 * h + 3) (I 319 (159 + 4 * h + 3) &&& (jshl (nI 1) (nI c) ^^^ (-1)) ||| nI 0)) → Q (.inl (some (.int (if I 319 (159 + 4 * h + 3) = (I 319 (159 + 4 * h + 3) &&& (jshl (nI 1) (nI c) ^^^ (-1)) ||| nI 0) then nI 0 else nI 1)))) (K, J, L, R, n, s)) : Ok (d + 5) 302 [.ref 318, .int (nI h), .int (nI c), .int (nI 0)] (K, I, L, R, n, s) Q := by
  obtain ⟨-, -, hn⟩ := id hT
  refine Ok.enter (F := F_302) (ls := [.ref 318, .int (nI h), .int (nI c), .int (nI 0), lDead]) rfl rfl ?_
  refine wp_aload0 (pc' := 1) rfl rfl ?_
  refine wp_iload1 (pc' := 2) rfl rfl ?_
  refine wp_iload2 (pc' := 3) rfl rfl ?_
  refine wp_callV3 (pc' := 6) rfl rfl rfl rfl rfl (by first | exact TK.k1 hT rfl | exact TK.kk hT rfl | exact TK.r hT rfl | assumption) rfl rfl ?_
  refine m_noSuch1 hT hw hH6 hh hc ?_
  obtain ⟨M, hM⟩ : ∃ M, M = up2 I 318 0 (nI 0) := ⟨_, rfl⟩
  have hM9 : M 319 = I 319 := by rw [hM]; exact up2_row (by decide)
  have hM7 : M 318 7 = I 318 7 := by rw [hM, up2_same, if_neg (by decide)]
  rw [← hM]
  refine Cont.v ?_
  refine wp_ifeqT rfl rfl ?_
  refine wp_aload0 (pc' := 12) rfl rfl ?_
  refine wp_iload1 (pc' := 13) rfl rfl ?_
  refine wp_iconst (v := nI 3) (pc' := 14) rfl rfl rfl ?_
  refine wp_callV3 (pc' := 17) rfl rfl rfl rfl rfl (by first | exact TK.k1 hT rfl | exact TK.kk hT rfl | exact TK.r hT rfl | assumption) rfl rfl ?_
  refine m_ofH hT (by omega) (by decide) ?_
  rw [hM9]
  refine Cont.v ?_
  refine wp_iconst (v := nI 1) (pc' := 18) rfl rfl rfl ?_
  refine wp_iload2 (pc' := 19) rfl rfl ?_
  refine wp_ishl (pc' := 20) rfl rfl ?_
  refine wp_iconst (v := (-1)) (pc' := 21) rfl rfl rfl ?_
  refine wp_ixor (pc' := 22) rfl rfl ?_
  refine wp_iand (pc' := 23) rfl rfl ?_
  refine wp_iload3 (pc' := 24) rfl rfl ?_
  refine wp_ifeqT rfl rfl ?_
  refine wp_iconst (v := nI 0) (pc' := 34) rfl rfl rfl ?_
  refine wp_ior (pc' := 35) rfl rfl ?_
  refine wp_istore4 (pc' := 37) rfl (by first | rfl | assumption) rfl ?_
  refine wp_aload0 (pc' := 38) rfl rfl ?_
  refine wp_iload1 (pc' := 39) rfl rfl ?_
  refine wp_iconst (v := nI 3) (pc' := 40) rfl rfl rfl ?_
  refine wp_callS2 (pc' := 43) rfl rfl rfl rfl rfl rfl ?_
  refine m_hearthAt ?_
  refine Cont.v ?_
  refine wp_iload4 (pc' := 45) rfl rfl ?_
  refine wp_callV3 (pc' := 48) rfl rfl rfl rfl rfl (by first | exact TK.k1 hT rfl | exact TK.kk hT rfl | exact TK.r hT rfl | assumption) rfl rfl ?_
  refine m_isNow hT (by rw [hM7]; exact hA) hA12 (by omega) (fun J hJ => ?_)
  rw [hM] at hJ
  rw [hM9]
  refine Cont.v ?_
  refine wp_iload4 (pc' := 50) rfl rfl ?_
  refine wp_icmpeq (pc' := 53) rfl rfl ?_ ?_
  · intro h50
    refine wp_iconst (v := nI 0) (pc' := 58) rfl rfl rfl ?_
    refine wp_iret rfl rfl (by first | rfl | exact nar_if) ?_
    first | exact Qv (kk _ (act_mk hJ (KpS.rfl'.upr (by omega)) upr_same)) (by rw [if_pos h50]) rfl | exact Qv (kk _ (act_mk hJ (KpS.rfl'.upr (by omega)) upr_same)) (by rw [if_neg h50]) rfl
  · intro h50
    refine wp_iconst (v := nI 1) (pc' := 54) rfl rfl rfl ?_
    refine wp_goto rfl ?_
    refine wp_iret rfl rfl (by first | rfl | exact nar_if) ?_
    first | exact Qv (kk _ (act_mk hJ (KpS.rfl'.upr (by omega)) upr_same)) (by rw [if_pos h50]) rfl | exact Qv (kk _ (act_mk hJ (KpS.rfl'.upr (by omega)) upr_same)) (by rw [if_neg h50]) rfl
theorem m_rightE {d : Nat} {K : Nat → Nat × Nat} {I : Nat → Nat → Int32} {L : Nat → Nat → Int64} {R : Nat → Nat → Option Nat} {n s : Nat} {Q : Lo → Lm → Prop} {x y z : Int32} (hT : TK K R n) {H : Nat} (hw : I 319 0 = nI H) (hH6 : H ≤ 6) (hxy : ¬ (InR x H ∧ InR y 25)) (kk : Q (.inl (some (.int (nI 0)))) (K, up2 I 318 0 (nI 1), L, R, n, s)) : Ok (d + 5) 302 [.ref 318, .int x, .int y, .int z] (K, I, L, R, n, s) Q := by
  obtain ⟨-, -, hn⟩ := id hT
  refine Ok.enter (F := F_302) (ls := [.ref 318, .int x, .int y, .int z, lDead]) rfl rfl ?_
  refine wp_aload0 (pc' := 1) rfl rfl ?_
  refine wp_iload1 (pc' := 2) rfl rfl ?_
  refine wp_iload2 (pc' := 3) rfl rfl ?_
  refine wp_callV3 (pc' := 6) rfl rfl rfl rfl rfl (by first | exact TK.k1 hT rfl | exact TK.kk hT rfl | exact TK.r hT rfl | assumption) rfl rfl ?_
  refine m_noSuch0 hT hw hH6 hxy ?_
  refine Cont.v ?_
  refine wp_ifeqF (pc' := 9) rfl (by decide) rfl ?_
  refine wp_iconst (v := nI 0) (pc' := 10) rfl rfl rfl ?_
  refine wp_iret rfl rfl (by first | rfl | exact nar_if) ?_
  exact kk
theorem m_sky1 {d : Nat} {K : Nat → Nat × Nat} {I : Nat → Nat → Int32} {L : Nat → Nat → Int64} {R : Nat → Nat → Option Nat} {n s : Nat} {Q : Lo → Lm → Prop} {A k : Nat} (hT : TK K R n) (hA : I 318 7 = nI A) (hA12 : A ≤ 12) (hk : k ≤ 9) (kk : ∀ J, ActJ A I J (up1 (up1 (I 319) 3 (nI k)) 5 (nI 1)) → Q (.inl (some (.int (I 319 3)))) (K, J, L, R, n, s)) : Ok (d + 4) 304 [.ref 318, .int (nI k), .int (nI 1)] (K, I, L, R, n, s) Q := by
  obtain ⟨-, -, hn⟩ := id hT
  refine Ok.enter (F := F_304) (ls := [.ref 318, .int (nI k), .int (nI 1), lDead]) rfl rfl ?_
  refine wp_aload0 (pc' := 1) rfl rfl ?_
  refine wp_iconst (v := nI 0) (pc' := 2) rfl rfl rfl ?_
  refine wp_putI (pc' := 5) rfl rfl (by first | exact TK.k1 hT rfl | exact TK.kk hT rfl | exact TK.r hT rfl | assumption) (by omega) rfl ?_
  obtain ⟨M, hM⟩ : ∃ M, M = up2 I 318 0 (nI 0) := ⟨_, rfl⟩
  have hM9 : M 319 = I 319 := by rw [hM]; exact up2_row (by decide)
  have hM7 : M 318 7 = I 318 7 := by rw [hM, up2_same, if_neg (by decide)]
  rw [← hM]
  refine wp_aload0 (pc' := 6) rfl rfl ?_
  refine wp_iload1 (pc' := 7) rfl rfl ?_
  refine wp_iconst (v := nI 0) (pc' := 8) rfl rfl rfl ?_
  refine wp_bipush (v := nI 9) (pc' := 10) rfl rfl rfl ?_
  refine wp_callS3 (pc' := 13) rfl rfl rfl rfl rfl rfl ?_
  refine m_in1 (nI_pos (by omega)) (nI_nlt (by omega) (by omega)) ?_
  refine Cont.v ?_
  refine wp_ifneT rfl (by decide) ?_
  refine wp_iconst (v := nI 0) (pc' := 21) rfl rfl rfl ?_
  refine wp_iconst (v := nI 1) (pc' := 22) rfl rfl rfl ?_
  refine wp_callV3 (pc' := 25) rfl rfl rfl rfl rfl (by first | exact TK.k1 hT rfl | exact TK.kk hT rfl | exact TK.r hT rfl | assumption) rfl rfl ?_
  refine m_tfN hT ?_
  refine Cont.v ?_
  refine wp_ifeqT rfl rfl ?_
  refine wp_aload0 (pc' := 31) rfl rfl ?_
  refine wp_iconst (v := nI 3) (pc' := 32) rfl rfl rfl ?_
  refine wp_iload1 (pc' := 33) rfl rfl ?_
  refine wp_callV3 (pc' := 36) rfl rfl rfl rfl rfl (by first | exact TK.k1 hT rfl | exact TK.kk hT rfl | exact TK.r hT rfl | assumption) rfl rfl ?_
  refine m_isNow hT (by rw [hM7]; exact hA) hA12 (by omega) (fun J hJ => ?_)
  rw [hM] at hJ
  rw [hM9]
  refine Cont.v ?_
  refine wp_istore3 (pc' := 37) rfl (by first | rfl | assumption) rfl ?_
  refine wp_aload0 (pc' := 38) rfl rfl ?_
  refine wp_getRF (pc' := 41) rfl rfl (by first | exact TK.k1 hT rfl | exact TK.kk hT rfl | exact TK.r hT rfl | assumption) (by first | exact TK.k1 hT rfl | exact TK.kk hT rfl | exact TK.r hT rfl | assumption) rfl ?_
  refine wp_iconst (v := nI 5) (pc' := 42) rfl rfl rfl ?_
  refine wp_iload2 (pc' := 43) rfl rfl ?_
  refine wp_ifeqF (pc' := 46) rfl (by decide) rfl ?_
  refine wp_iconst (v := nI 1) (pc' := 47) rfl rfl rfl ?_
  refine wp_goto rfl ?_
  refine wp_iast _ (pc' := 52) rfl (by first | exact TK.k1 hT rfl | exact TK.kk hT rfl | exact TK.r hT rfl | assumption) (by omega) (by with_reducible rfl) (by omega) (by first | decide | assumption | omega) rfl ?_
  refine wp_iload3 (pc' := 53) rfl rfl ?_
  refine wp_iret rfl rfl rfl ?_
  rw [up2_upr]
  exact kk _ (act_mk hJ (KpS.rfl'.upr (by omega)) upr_same)
theorem m_sky0 {d : Nat} {K : Nat → Nat × Nat} {I : Nat → Nat → Int32} {L : Nat → Nat → Int64} {R : Nat → Nat → Option Nat} {n s : Nat} {Q : Lo → Lm → Prop} {A k : Nat} (hT : TK K R n) (hA : I 318 7 = nI A) (hA12 : A ≤ 12) (hk : k ≤ 9) (kk : ∀ J, ActJ A I J (up1 (up1 (I 319) 3 (nI k)) 5 (nI 0)) → Q (.inl (some (.int (I 319 3)))) (K, J, L, R, n, s)) : Ok (d + 4) 304 [.ref 318, .int (nI k), .int (nI 0)] (K, I, L, R, n, s) Q := by
  obtain ⟨-, -, hn⟩ := id hT
  refine Ok.enter (F := F_304) (ls := [.ref 318, .int (nI k), .int (nI 0), lDead]) rfl rfl ?_
  refine wp_aload0 (pc' := 1) rfl rfl ?_
  refine wp_iconst (v := nI 0) (pc' := 2) rfl rfl rfl ?_
  refine wp_putI (pc' := 5) rfl rfl (by first | exact TK.k1 hT rfl | exact TK.kk hT rfl | exact TK.r hT rfl | assumption) (by omega) rfl ?_
  obtain ⟨M, hM⟩ : ∃ M, M = up2 I 318 0 (nI 0) := ⟨_, rfl⟩
  have hM9 : M 319 = I 319 := by rw [hM]; exact up2_row (by decide)
  have hM7 : M 318 7 = I 318 7 := by rw [hM, up2_same, if_neg (by decide)]
  rw [← hM]
  refine wp_aload0 (pc' := 6) rfl rfl ?_
  refine wp_iload1 (pc' := 7) rfl rfl ?_
  refine wp_iconst (v := nI 0) (pc' := 8) rfl rfl rfl ?_
  refine wp_bipush (v := nI 9) (pc' := 10) rfl rfl rfl ?_
  refine wp_callS3 (pc' := 13) rfl rfl rfl rfl rfl rfl ?_
  refine m_in1 (nI_pos (by omega)) (nI_nlt (by omega) (by omega)) ?_
  refine Cont.v ?_
  refine wp_ifneT rfl (by decide) ?_
  refine wp_iconst (v := nI 0) (pc' := 21) rfl rfl rfl ?_
  refine wp_iconst (v := nI 1) (pc' := 22) rfl rfl rfl ?_
  refine wp_callV3 (pc' := 25) rfl rfl rfl rfl rfl (by first | exact TK.k1 hT rfl | exact TK.kk hT rfl | exact TK.r hT rfl | assumption) rfl rfl ?_
  refine m_tfN hT ?_
  refine Cont.v ?_
  refine wp_ifeqT rfl rfl ?_
  refine wp_aload0 (pc' := 31) rfl rfl ?_
  refine wp_iconst (v := nI 3) (pc' := 32) rfl rfl rfl ?_
  refine wp_iload1 (pc' := 33) rfl rfl ?_
  refine wp_callV3 (pc' := 36) rfl rfl rfl rfl rfl (by first | exact TK.k1 hT rfl | exact TK.kk hT rfl | exact TK.r hT rfl | assumption) rfl rfl ?_
  refine m_isNow hT (by rw [hM7]; exact hA) hA12 (by omega) (fun J hJ => ?_)
  rw [hM] at hJ
  rw [hM9]
  refine Cont.v ?_
  refine wp_istore3 (pc' := 37) rfl (by first | rfl | assumption) rfl ?_
  refine wp_aload0 (pc' := 38) rfl rfl ?_
  refine wp_getRF (pc' := 41) rfl rfl (by first | exact TK.k1 hT rfl | exact TK.kk hT rfl | exact TK.r hT rfl | assumption) (by first | exact TK.k1 hT rfl | exact TK.kk hT rfl | exact TK.r hT rfl | assumption) rfl ?_
  refine wp_iconst (v := nI 5) (pc' := 42) rfl rfl rfl ?_
  refine wp_iload2 (pc' := 43) rfl rfl ?_
  refine wp_ifeqT rfl rfl ?_
  refine wp_iconst (v := nI 0) (pc' := 51) rfl rfl rfl ?_
  refine wp_iast _ (pc' := 52) rfl (by first | exact TK.k1 hT rfl | exact TK.kk hT rfl | exact TK.r hT rfl | assumption) (by omega) (by with_reducible rfl) (by omega) (by first | decide | assumption | omega) rfl ?_
  refine wp_iload3 (pc' := 53) rfl rfl ?_
  refine wp_iret rfl rfl rfl ?_
  rw [up2_upr]
  exact kk _ (act_mk hJ (KpS.rfl'.upr (by omega)) upr_same)
theorem m_skyE {d : Nat} {K : Nat → Nat × Nat} {I : Nat → Nat → Int32} {L : Nat → Nat → Int64} {R : Nat → Nat → Option Nat} {n s : Nat} {Q : Lo → Lm → Prop} {x y : Int32} (hT : TK K R n) (hx : ¬ InR x 10) (kk : Q (.inl (some (.int (nI 0)))) (K, up2 I 318 0 (nI 1), L, R, n, s)) : Ok (d + 4) 304 [.ref 318, .int x, .int y] (K, I, L, R, n, s) Q := by
  obtain ⟨-, -, hn⟩ := id hT
  refine Ok.enter (F := F_304) (ls := [.ref 318, .int x, .int y, lDead]) rfl rfl ?_
  refine wp_aload0 (pc' := 1) rfl rfl ?_
  refine wp_iconst (v := nI 0) (pc' := 2) rfl rfl rfl ?_
  refine wp_putI (pc' := 5) rfl rfl (by first | exact TK.k1 hT rfl | exact TK.kk hT rfl | exact TK.r hT rfl | assumption) (by omega) rfl ?_
  refine wp_aload0 (pc' := 6) rfl rfl ?_
  refine wp_iload1 (pc' := 7) rfl rfl ?_
  refine wp_iconst (v := nI 0) (pc' := 8) rfl rfl rfl ?_
  refine wp_bipush (v := nI 9) (pc' := 10) rfl rfl rfl ?_
  refine wp_callS3 (pc' := 13) rfl rfl rfl rfl rfl rfl ?_
  refine m_in0 (fun q => hx ((InR_iff (k := 9) (by decide)).mp q)) ?_
  refine Cont.v ?_
  refine wp_ifneF (pc' := 16) rfl rfl rfl ?_
  refine wp_iconst (v := nI 1) (pc' := 17) rfl rfl rfl ?_
  refine wp_goto rfl ?_
  refine wp_iconst (v := nI 1) (pc' := 22) rfl rfl rfl ?_
  refine wp_callV3 (pc' := 25) rfl rfl rfl rfl rfl (by first | exact TK.k1 hT rfl | exact TK.kk hT rfl | exact TK.r hT rfl | assumption) rfl rfl ?_
  refine m_tfY hT ?_
  refine Cont.v ?_
  refine wp_ifeqF (pc' := 28) rfl (by decide) rfl ?_
  refine wp_iconst (v := nI 0) (pc' := 29) rfl rfl rfl ?_
  refine wp_iret rfl rfl rfl ?_
  rw [up318]
  exact kk
