/-! THE REFERENCE: a cell -/
theorem ask_mk0 {I J : Mem} (h : KpS (up2 I 318 0 (nI 0)) J) (h9 : J 319 = I 319) : AskJ I J := ask_mk (g := (up2 I 318 0 (nI 0)) 322) (by rw [upr_id]; exact h) h9

theorem m_cell0 {d : Nat} {K : Nat → Nat × Nat} {I : Nat → Nat → Int32} {L : Nat → Nat → Int64} {R : Nat → Nat → Option Nat} {n s : Nat} {Q : Lo → Lm → Prop} {c : Nat} (hT : TK K R n) (hc : c < 25) (kk : Q (.inl (some (.int (I 319 (9 + 6 * c + 0))))) (K, up2 I 318 0 (nI 0), L, R, n, s)) : Ok (d + 12) 255 [.ref 318, .int (nI c), .int (nI 0)] (K, I, L, R, n, s) Q := by
  obtain ⟨-, -, hn⟩ := id hT
  refine Ok.enter (F := F_255) (ls := [.ref 318, .int (nI c), .int (nI 0)]) rfl rfl ?_
  refine wp_aload0 (pc' := 1) rfl rfl ?_
  refine wp_iconst (v := nI 0) (pc' := 2) rfl rfl rfl ?_
  refine wp_putI (pc' := 5) rfl rfl (by first | exact TK.k1 hT rfl | exact TK.kk hT rfl | exact TK.r hT rfl | assumption) (by omega) rfl ?_
  obtain ⟨M, hM⟩ : ∃ M, M = up2 I 318 0 (nI 0) := ⟨_, rfl⟩
  have hM9 : M 319 = I 319 := by rw [hM]; exact up2_row (by decide)
  have hM7 : M 318 7 = I 318 7 := by rw [hM, up2_same, if_neg (by decide)]
  rw [← hM]
  refine wp_aload0 (pc' := 6) rfl rfl ?_
  refine wp_iload1 (pc' := 7) rfl rfl ?_
  refine wp_callS1 (pc' := 10) rfl rfl rfl rfl rfl rfl ?_
  refine m_noCell1 hc ?_
  refine Cont.v ?_
  refine wp_iconst (v := nI 1) (pc' := 11) rfl rfl rfl ?_
  refine wp_callV3 (pc' := 14) rfl rfl rfl rfl rfl (by first | exact TK.k1 hT rfl | exact TK.kk hT rfl | exact TK.r hT rfl | assumption) rfl rfl ?_
  refine m_tfN hT ?_
  refine Cont.v ?_
  refine wp_ifneF (pc' := 17) rfl rfl rfl ?_
  refine wp_aload0 (pc' := 18) rfl rfl ?_
  refine wp_iload2 (pc' := 19) rfl rfl ?_
  refine wp_iconst (v := nI 0) (pc' := 20) rfl rfl rfl ?_
  refine wp_bipush (v := nI 16) (pc' := 22) rfl rfl rfl ?_
  refine wp_callS3 (pc' := 25) rfl rfl rfl rfl rfl rfl ?_
  refine m_in1 (by decide) (by decide) ?_
  refine Cont.v ?_
  refine wp_ifneT rfl (by decide) ?_
  refine wp_iconst (v := nI 0) (pc' := 33) rfl rfl rfl ?_
  refine wp_iconst (v := nI 2) (pc' := 34) rfl rfl rfl ?_
  refine wp_callV3 (pc' := 37) rfl rfl rfl rfl rfl (by first | exact TK.k1 hT rfl | exact TK.kk hT rfl | exact TK.r hT rfl | assumption) rfl rfl ?_
  refine m_tfN hT ?_
  refine Cont.v ?_
  refine wp_ifeqT rfl rfl ?_
  refine wp_iload2 (pc' := 43) rfl rfl ?_
  refine wp_sw (tg := 196) rfl rfl ?_
  refine wp_aload0 (pc' := 197) rfl rfl ?_
  refine wp_iload1 (pc' := 198) rfl rfl ?_
  refine wp_iload2 (pc' := 199) rfl rfl ?_
  refine wp_callV3 (pc' := 202) rfl rfl rfl rfl rfl (by first | exact TK.k1 hT rfl | exact TK.kk hT rfl | exact TK.r hT rfl | assumption) rfl rfl ?_
  refine m_of hT hc (by decide) ?_
  rw [hM9]
  refine Cont.v ?_
  refine wp_iret rfl rfl rfl ?_
  rw [hM]
  exact kk
theorem m_cell1 {d : Nat} {K : Nat → Nat × Nat} {I : Nat → Nat → Int32} {L : Nat → Nat → Int64} {R : Nat → Nat → Option Nat} {n s : Nat} {Q : Lo → Lm → Prop} {c : Nat} (hT : TK K R n) (hc : c < 25) (kk : Q (.inl (some (.int (I 319 (9 + 6 * c + 1))))) (K, up2 I 318 0 (nI 0), L, R, n, s)) : Ok (d + 12) 255 [.ref 318, .int (nI c), .int (nI 1)] (K, I, L, R, n, s) Q := by
  obtain ⟨-, -, hn⟩ := id hT
  refine Ok.enter (F := F_255) (ls := [.ref 318, .int (nI c), .int (nI 1)]) rfl rfl ?_
  refine wp_aload0 (pc' := 1) rfl rfl ?_
  refine wp_iconst (v := nI 0) (pc' := 2) rfl rfl rfl ?_
  refine wp_putI (pc' := 5) rfl rfl (by first | exact TK.k1 hT rfl | exact TK.kk hT rfl | exact TK.r hT rfl | assumption) (by omega) rfl ?_
  obtain ⟨M, hM⟩ : ∃ M, M = up2 I 318 0 (nI 0) := ⟨_, rfl⟩
  have hM9 : M 319 = I 319 := by rw [hM]; exact up2_row (by decide)
  have hM7 : M 318 7 = I 318 7 := by rw [hM, up2_same, if_neg (by decide)]
  rw [← hM]
  refine wp_aload0 (pc' := 6) rfl rfl ?_
  refine wp_iload1 (pc' := 7) rfl rfl ?_
  refine wp_callS1 (pc' := 10) rfl rfl rfl rfl rfl rfl ?_
  refine m_noCell1 hc ?_
  refine Cont.v ?_
  refine wp_iconst (v := nI 1) (pc' := 11) rfl rfl rfl ?_
  refine wp_callV3 (pc' := 14) rfl rfl rfl rfl rfl (by first | exact TK.k1 hT rfl | exact TK.kk hT rfl | exact TK.r hT rfl | assumption) rfl rfl ?_
  refine m_tfN hT ?_
  refine Cont.v ?_
  refine wp_ifneF (pc' := 17) rfl rfl rfl ?_
  refine wp_aload0 (pc' := 18) rfl rfl ?_
  refine wp_iload2 (pc' := 19) rfl rfl ?_
  refine wp_iconst (v := nI 0) (pc' := 20) rfl rfl rfl ?_
  refine wp_bipush (v := nI 16) (pc' := 22) rfl rfl rfl ?_
  refine wp_callS3 (pc' := 25) rfl rfl rfl rfl rfl rfl ?_
  refine m_in1 (by decide) (by decide) ?_
  refine Cont.v ?_
  refine wp_ifneT rfl (by decide) ?_
  refine wp_iconst (v := nI 0) (pc' := 33) rfl rfl rfl ?_
  refine wp_iconst (v := nI 2) (pc' := 34) rfl rfl rfl ?_
  refine wp_callV3 (pc' := 37) rfl rfl rfl rfl rfl (by first | exact TK.k1 hT rfl | exact TK.kk hT rfl | exact TK.r hT rfl | assumption) rfl rfl ?_
  refine m_tfN hT ?_
  refine Cont.v ?_
  refine wp_ifeqT rfl rfl ?_
  refine wp_iload2 (pc' := 43) rfl rfl ?_
  refine wp_sw (tg := 196) rfl rfl ?_
  refine wp_aload0 (pc' := 197) rfl rfl ?_
  refine wp_iload1 (pc' := 198) rfl rfl ?_
  refine wp_iload2 (pc' := 199) rfl rfl ?_
  refine wp_callV3 (pc' := 202) rfl rfl rfl rfl rfl (by first | exact TK.k1 hT rfl | exact TK.kk hT rfl | exact TK.r hT rfl | assumption) rfl rfl ?_
  refine m_of hT hc (by decide) ?_
  rw [hM9]
  refine Cont.v ?_
  refine wp_iret rfl rfl rfl ?_
  rw [hM]
  exact kk
theorem m_cell2 {d : Nat} {K : Nat → Nat × Nat} {I : Nat → Nat → Int32} {L : Nat → Nat → Int64} {R : Nat → Nat → Option Nat} {n s : Nat} {Q : Lo → Lm → Prop} {c : Nat} (hT : TK K R n) (hc : c < 25) (kk : Q (.inl (some (.int (I 319 (9 + 6 * c + 2))))) (K, up2 I 318 0 (nI 0), L, R, n, s)) : Ok (d + 12) 255 [.ref 318, .int (nI c), .int (nI 2)] (K, I, L, R, n, s) Q := by
  obtain ⟨-, -, hn⟩ := id hT
  refine Ok.enter (F := F_255) (ls := [.ref 318, .int (nI c), .int (nI 2)]) rfl rfl ?_
  refine wp_aload0 (pc' := 1) rfl rfl ?_
  refine wp_iconst (v := nI 0) (pc' := 2) rfl rfl rfl ?_
  refine wp_putI (pc' := 5) rfl rfl (by first | exact TK.k1 hT rfl | exact TK.kk hT rfl | exact TK.r hT rfl | assumption) (by omega) rfl ?_
  obtain ⟨M, hM⟩ : ∃ M, M = up2 I 318 0 (nI 0) := ⟨_, rfl⟩
  have hM9 : M 319 = I 319 := by rw [hM]; exact up2_row (by decide)
  have hM7 : M 318 7 = I 318 7 := by rw [hM, up2_same, if_neg (by decide)]
  rw [← hM]
  refine wp_aload0 (pc' := 6) rfl rfl ?_
  refine wp_iload1 (pc' := 7) rfl rfl ?_
  refine wp_callS1 (pc' := 10) rfl rfl rfl rfl rfl rfl ?_
  refine m_noCell1 hc ?_
  refine Cont.v ?_
  refine wp_iconst (v := nI 1) (pc' := 11) rfl rfl rfl ?_
  refine wp_callV3 (pc' := 14) rfl rfl rfl rfl rfl (by first | exact TK.k1 hT rfl | exact TK.kk hT rfl | exact TK.r hT rfl | assumption) rfl rfl ?_
  refine m_tfN hT ?_
  refine Cont.v ?_
  refine wp_ifneF (pc' := 17) rfl rfl rfl ?_
  refine wp_aload0 (pc' := 18) rfl rfl ?_
  refine wp_iload2 (pc' := 19) rfl rfl ?_
  refine wp_iconst (v := nI 0) (pc' := 20) rfl rfl rfl ?_
  refine wp_bipush (v := nI 16) (pc' := 22) rfl rfl rfl ?_
  refine wp_callS3 (pc' := 25) rfl rfl rfl rfl rfl rfl ?_
  refine m_in1 (by decide) (by decide) ?_
  refine Cont.v ?_
  refine wp_ifneT rfl (by decide) ?_
  refine wp_iconst (v := nI 0) (pc' := 33) rfl rfl rfl ?_
  refine wp_iconst (v := nI 2) (pc' := 34) rfl rfl rfl ?_
  refine wp_callV3 (pc' := 37) rfl rfl rfl rfl rfl (by first | exact TK.k1 hT rfl | exact TK.kk hT rfl | exact TK.r hT rfl | assumption) rfl rfl ?_
  refine m_tfN hT ?_
  refine Cont.v ?_
  refine wp_ifeqT rfl rfl ?_
  refine wp_iload2 (pc' := 43) rfl rfl ?_
  refine wp_sw (tg := 196) rfl rfl ?_
  refine wp_aload0 (pc' := 197) rfl rfl ?_
  refine wp_iload1 (pc' := 198) rfl rfl ?_
  refine wp_iload2 (pc' := 199) rfl rfl ?_
  refine wp_callV3 (pc' := 202) rfl rfl rfl rfl rfl (by first | exact TK.k1 hT rfl | exact TK.kk hT rfl | exact TK.r hT rfl | assumption) rfl rfl ?_
  refine m_of hT hc (by decide) ?_
  rw [hM9]
  refine Cont.v ?_
  refine wp_iret rfl rfl rfl ?_
  rw [hM]
  exact kk
theorem m_cell3 {d : Nat} {K : Nat → Nat × Nat} {I : Nat → Nat → Int32} {L : Nat → Nat → Int64} {R : Nat → Nat → Option Nat} {n s : Nat} {Q : Lo → Lm → Prop} {c : Nat} (hT : TK K R n) (hc : c < 25) (kk : Q (.inl (some (.int (I 319 (9 + 6 * c + 3))))) (K, up2 I 318 0 (nI 0), L, R, n, s)) : Ok (d + 12) 255 [.ref 318, .int (nI c), .int (nI 3)] (K, I, L, R, n, s) Q := by
  obtain ⟨-, -, hn⟩ := id hT
  refine Ok.enter (F := F_255) (ls := [.ref 318, .int (nI c), .int (nI 3)]) rfl rfl ?_
  refine wp_aload0 (pc' := 1) rfl rfl ?_
  refine wp_iconst (v := nI 0) (pc' := 2) rfl rfl rfl ?_
  refine wp_putI (pc' := 5) rfl rfl (by first | exact TK.k1 hT rfl | exact TK.kk hT rfl | exact TK.r hT rfl | assumption) (by omega) rfl ?_
  obtain ⟨M, hM⟩ : ∃ M, M = up2 I 318 0 (nI 0) := ⟨_, rfl⟩
  have hM9 : M 319 = I 319 := by rw [hM]; exact up2_row (by decide)
  have hM7 : M 318 7 = I 318 7 := by rw [hM, up2_same, if_neg (by decide)]
  rw [← hM]
  refine wp_aload0 (pc' := 6) rfl rfl ?_
  refine wp_iload1 (pc' := 7) rfl rfl ?_
  refine wp_callS1 (pc' := 10) rfl rfl rfl rfl rfl rfl ?_
  refine m_noCell1 hc ?_
  refine Cont.v ?_
  refine wp_iconst (v := nI 1) (pc' := 11) rfl rfl rfl ?_
  refine wp_callV3 (pc' := 14) rfl rfl rfl rfl rfl (by first | exact TK.k1 hT rfl | exact TK.kk hT rfl | exact TK.r hT rfl | assumption) rfl rfl ?_
  refine m_tfN hT ?_
  refine Cont.v ?_
  refine wp_ifneF (pc' := 17) rfl rfl rfl ?_
  refine wp_aload0 (pc' := 18) rfl rfl ?_
  refine wp_iload2 (pc' := 19) rfl rfl ?_
  refine wp_iconst (v := nI 0) (pc' := 20) rfl rfl rfl ?_
  refine wp_bipush (v := nI 16) (pc' := 22) rfl rfl rfl ?_
  refine wp_callS3 (pc' := 25) rfl rfl rfl rfl rfl rfl ?_
  refine m_in1 (by decide) (by decide) ?_
  refine Cont.v ?_
  refine wp_ifneT rfl (by decide) ?_
  refine wp_iconst (v := nI 0) (pc' := 33) rfl rfl rfl ?_
  refine wp_iconst (v := nI 2) (pc' := 34) rfl rfl rfl ?_
  refine wp_callV3 (pc' := 37) rfl rfl rfl rfl rfl (by first | exact TK.k1 hT rfl | exact TK.kk hT rfl | exact TK.r hT rfl | assumption) rfl rfl ?_
  refine m_tfN hT ?_
  refine Cont.v ?_
  refine wp_ifeqT rfl rfl ?_
  refine wp_iload2 (pc' := 43) rfl rfl ?_
  refine wp_sw (tg := 196) rfl rfl ?_
  refine wp_aload0 (pc' := 197) rfl rfl ?_
  refine wp_iload1 (pc' := 198) rfl rfl ?_
  refine wp_iload2 (pc' := 199) rfl rfl ?_
  refine wp_callV3 (pc' := 202) rfl rfl rfl rfl rfl (by first | exact TK.k1 hT rfl | exact TK.kk hT rfl | exact TK.r hT rfl | assumption) rfl rfl ?_
  refine m_of hT hc (by decide) ?_
  rw [hM9]
  refine Cont.v ?_
  refine wp_iret rfl rfl rfl ?_
  rw [hM]
  exact kk
theorem m_cell4 {d : Nat} {K : Nat → Nat × Nat} {I : Nat → Nat → Int32} {L : Nat → Nat → Int64} {R : Nat → Nat → Option Nat} {n s : Nat} {Q : Lo → Lm → Prop} {c : Nat} (hT : TK K R n) (hc : c < 25) (kk : Q (.inl (some (.int (I 319 (9 + 6 * c + 4))))) (K, up2 I 318 0 (nI 0), L, R, n, s)) : Ok (d + 12) 255 [.ref 318, .int (nI c), .int (nI 4)] (K, I, L, R, n, s) Q := by
  obtain ⟨-, -, hn⟩ := id hT
  refine Ok.enter (F := F_255) (ls := [.ref 318, .int (nI c), .int (nI 4)]) rfl rfl ?_
  refine wp_aload0 (pc' := 1) rfl rfl ?_
  refine wp_iconst (v := nI 0) (pc' := 2) rfl rfl rfl ?_
  refine wp_putI (pc' := 5) rfl rfl (by first | exact TK.k1 hT rfl | exact TK.kk hT rfl | exact TK.r hT rfl | assumption) (by omega) rfl ?_
  obtain ⟨M, hM⟩ : ∃ M, M = up2 I 318 0 (nI 0) := ⟨_, rfl⟩
  have hM9 : M 319 = I 319 := by rw [hM]; exact up2_row (by decide)
  have hM7 : M 318 7 = I 318 7 := by rw [hM, up2_same, if_neg (by decide)]
  rw [← hM]
  refine wp_aload0 (pc' := 6) rfl rfl ?_
  refine wp_iload1 (pc' := 7) rfl rfl ?_
  refine wp_callS1 (pc' := 10) rfl rfl rfl rfl rfl rfl ?_
  refine m_noCell1 hc ?_
  refine Cont.v ?_
  refine wp_iconst (v := nI 1) (pc' := 11) rfl rfl rfl ?_
  refine wp_callV3 (pc' := 14) rfl rfl rfl rfl rfl (by first | exact TK.k1 hT rfl | exact TK.kk hT rfl | exact TK.r hT rfl | assumption) rfl rfl ?_
  refine m_tfN hT ?_
  refine Cont.v ?_
  refine wp_ifneF (pc' := 17) rfl rfl rfl ?_
  refine wp_aload0 (pc' := 18) rfl rfl ?_
  refine wp_iload2 (pc' := 19) rfl rfl ?_
  refine wp_iconst (v := nI 0) (pc' := 20) rfl rfl rfl ?_
  refine wp_bipush (v := nI 16) (pc' := 22) rfl rfl rfl ?_
  refine wp_callS3 (pc' := 25) rfl rfl rfl rfl rfl rfl ?_
  refine m_in1 (by decide) (by decide) ?_
  refine Cont.v ?_
  refine wp_ifneT rfl (by decide) ?_
  refine wp_iconst (v := nI 0) (pc' := 33) rfl rfl rfl ?_
  refine wp_iconst (v := nI 2) (pc' := 34) rfl rfl rfl ?_
  refine wp_callV3 (pc' := 37) rfl rfl rfl rfl rfl (by first | exact TK.k1 hT rfl | exact TK.kk hT rfl | exact TK.r hT rfl | assumption) rfl rfl ?_
  refine m_tfN hT ?_
  refine Cont.v ?_
  refine wp_ifeqT rfl rfl ?_
  refine wp_iload2 (pc' := 43) rfl rfl ?_
  refine wp_sw (tg := 196) rfl rfl ?_
  refine wp_aload0 (pc' := 197) rfl rfl ?_
  refine wp_iload1 (pc' := 198) rfl rfl ?_
  refine wp_iload2 (pc' := 199) rfl rfl ?_
  refine wp_callV3 (pc' := 202) rfl rfl rfl rfl rfl (by first | exact TK.k1 hT rfl | exact TK.kk hT rfl | exact TK.r hT rfl | assumption) rfl rfl ?_
  refine m_of hT hc (by decide) ?_
  rw [hM9]
  refine Cont.v ?_
  refine wp_iret rfl rfl rfl ?_
  rw [hM]
  exact kk
theorem m_cell5 {d : Nat} {K : Nat → Nat × Nat} {I : Nat → Nat → Int32} {L : Nat → Nat → Int64} {R : Nat → Nat → Option Nat} {n s : Nat} {Q : Lo → Lm → Prop} {c : Nat} (hT : TK K R n) (hc : c < 25) (kk : Q (.inl (some (.int (I 319 (9 + 6 * c + 5))))) (K, up2 I 318 0 (nI 0), L, R, n, s)) : Ok (d + 12) 255 [.ref 318, .int (nI c), .int (nI 5)] (K, I, L, R, n, s) Q := by
  obtain ⟨-, -, hn⟩ := id hT
  refine Ok.enter (F := F_255) (ls := [.ref 318, .int (nI c), .int (nI 5)]) rfl rfl ?_
  refine wp_aload0 (pc' := 1) rfl rfl ?_
  refine wp_iconst (v := nI 0) (pc' := 2) rfl rfl rfl ?_
  refine wp_putI (pc' := 5) rfl rfl (by first | exact TK.k1 hT rfl | exact TK.kk hT rfl | exact TK.r hT rfl | assumption) (by omega) rfl ?_
  obtain ⟨M, hM⟩ : ∃ M, M = up2 I 318 0 (nI 0) := ⟨_, rfl⟩
  have hM9 : M 319 = I 319 := by rw [hM]; exact up2_row (by decide)
  have hM7 : M 318 7 = I 318 7 := by rw [hM, up2_same, if_neg (by decide)]
  rw [← hM]
  refine wp_aload0 (pc' := 6) rfl rfl ?_
  refine wp_iload1 (pc' := 7) rfl rfl ?_
  refine wp_callS1 (pc' := 10) rfl rfl rfl rfl rfl rfl ?_
  refine m_noCell1 hc ?_
  refine Cont.v ?_
  refine wp_iconst (v := nI 1) (pc' := 11) rfl rfl rfl ?_
  refine wp_callV3 (pc' := 14) rfl rfl rfl rfl rfl (by first | exact TK.k1 hT rfl | exact TK.kk hT rfl | exact TK.r hT rfl | assumption) rfl rfl ?_
  refine m_tfN hT ?_
  refine Cont.v ?_
  refine wp_ifneF (pc' := 17) rfl rfl rfl ?_
  refine wp_aload0 (pc' := 18) rfl rfl ?_
  refine wp_iload2 (pc' := 19) rfl rfl ?_
  refine wp_iconst (v := nI 0) (pc' := 20) rfl rfl rfl ?_
  refine wp_bipush (v := nI 16) (pc' := 22) rfl rfl rfl ?_
  refine wp_callS3 (pc' := 25) rfl rfl rfl rfl rfl rfl ?_
  refine m_in1 (by decide) (by decide) ?_
  refine Cont.v ?_
  refine wp_ifneT rfl (by decide) ?_
  refine wp_iconst (v := nI 0) (pc' := 33) rfl rfl rfl ?_
  refine wp_iconst (v := nI 2) (pc' := 34) rfl rfl rfl ?_
  refine wp_callV3 (pc' := 37) rfl rfl rfl rfl rfl (by first | exact TK.k1 hT rfl | exact TK.kk hT rfl | exact TK.r hT rfl | assumption) rfl rfl ?_
  refine m_tfN hT ?_
  refine Cont.v ?_
  refine wp_ifeqT rfl rfl ?_
  refine wp_iload2 (pc' := 43) rfl rfl ?_
  refine wp_sw (tg := 196) rfl rfl ?_
  refine wp_aload0 (pc' := 197) rfl rfl ?_
  refine wp_iload1 (pc' := 198) rfl rfl ?_
  refine wp_iload2 (pc' := 199) rfl rfl ?_
  refine wp_callV3 (pc' := 202) rfl rfl rfl rfl rfl (by first | exact TK.k1 hT rfl | exact TK.kk hT rfl | exact TK.r hT rfl | assumption) rfl rfl ?_
  refine m_of hT hc (by decide) ?_
  rw [hM9]
  refine Cont.v ?_
  refine wp_iret rfl rfl rfl ?_
  rw [hM]
  exact kk
theorem m_cell6 {d : Nat} {K : Nat → Nat × Nat} {I : Nat → Nat → Int32} {L : Nat → Nat → Int64} {R : Nat → Nat → Option Nat} {n s : Nat} {Q : Lo → Lm → Prop} {c : Nat} (hT : TK K R n) (hc : c < 25) (kk : Q (.inl (some (.int (jshr (alW (I 319)) (nI c) &&& nI 1)))) (K, up2 I 318 0 (nI 0), L, R, n, s)) : Ok (d + 12) 255 [.ref 318, .int (nI c), .int (nI 6)] (K, I, L, R, n, s) Q := by
  obtain ⟨-, -, hn⟩ := id hT
  refine Ok.enter (F := F_255) (ls := [.ref 318, .int (nI c), .int (nI 6)]) rfl rfl ?_
  refine wp_aload0 (pc' := 1) rfl rfl ?_
  refine wp_iconst (v := nI 0) (pc' := 2) rfl rfl rfl ?_
  refine wp_putI (pc' := 5) rfl rfl (by first | exact TK.k1 hT rfl | exact TK.kk hT rfl | exact TK.r hT rfl | assumption) (by omega) rfl ?_
  obtain ⟨M, hM⟩ : ∃ M, M = up2 I 318 0 (nI 0) := ⟨_, rfl⟩
  have hM9 : M 319 = I 319 := by rw [hM]; exact up2_row (by decide)
  have hM7 : M 318 7 = I 318 7 := by rw [hM, up2_same, if_neg (by decide)]
  rw [← hM]
  refine wp_aload0 (pc' := 6) rfl rfl ?_
  refine wp_iload1 (pc' := 7) rfl rfl ?_
  refine wp_callS1 (pc' := 10) rfl rfl rfl rfl rfl rfl ?_
  refine m_noCell1 hc ?_
  refine Cont.v ?_
  refine wp_iconst (v := nI 1) (pc' := 11) rfl rfl rfl ?_
  refine wp_callV3 (pc' := 14) rfl rfl rfl rfl rfl (by first | exact TK.k1 hT rfl | exact TK.kk hT rfl | exact TK.r hT rfl | assumption) rfl rfl ?_
  refine m_tfN hT ?_
  refine Cont.v ?_
  refine wp_ifneF (pc' := 17) rfl rfl rfl ?_
  refine wp_aload0 (pc' := 18) rfl rfl ?_
  refine wp_iload2 (pc' := 19) rfl rfl ?_
  refine wp_iconst (v := nI 0) (pc' := 20) rfl rfl rfl ?_
  refine wp_bipush (v := nI 16) (pc' := 22) rfl rfl rfl ?_
  refine wp_callS3 (pc' := 25) rfl rfl rfl rfl rfl rfl ?_
  refine m_in1 (by decide) (by decide) ?_
  refine Cont.v ?_
  refine wp_ifneT rfl (by decide) ?_
  refine wp_iconst (v := nI 0) (pc' := 33) rfl rfl rfl ?_
  refine wp_iconst (v := nI 2) (pc' := 34) rfl rfl rfl ?_
  refine wp_callV3 (pc' := 37) rfl rfl rfl rfl rfl (by first | exact TK.k1 hT rfl | exact TK.kk hT rfl | exact TK.r hT rfl | assumption) rfl rfl ?_
  refine m_tfN hT ?_
  refine Cont.v ?_
  refine wp_ifeqT rfl rfl ?_
  refine wp_iload2 (pc' := 43) rfl rfl ?_
  refine wp_sw (tg := 100) rfl rfl ?_
  refine wp_aload0 (pc' := 101) rfl rfl ?_
  refine wp_callV1 (pc' := 104) rfl rfl rfl rfl rfl (by first | exact TK.k1 hT rfl | exact TK.kk hT rfl | exact TK.r hT rfl | assumption) rfl rfl ?_
  refine m_allDrained hT ?_
  rw [hM9]
  refine Cont.v ?_
  refine wp_iload1 (pc' := 105) rfl rfl ?_
  refine wp_ishr (pc' := 106) rfl rfl ?_
  refine wp_iconst (v := nI 1) (pc' := 107) rfl rfl rfl ?_
  refine wp_iand (pc' := 108) rfl rfl ?_
  refine wp_iret rfl rfl rfl ?_
  rw [hM]
  exact kk
theorem m_cell7 {d : Nat} {K : Nat → Nat × Nat} {I : Nat → Nat → Int32} {L : Nat → Nat → Int64} {R : Nat → Nat → Option Nat} {n s : Nat} {Q : Lo → Lm → Prop} {c : Nat} (hT : TK K R n) (hc : c < 25) (kk : Q (.inl (some (.int (jshr (widC (alW (I 319)) (nI 33554431)) (nI c) &&& nI 1)))) (K, up2 I 318 0 (nI 0), L, R, n, s)) : Ok (d + 12) 255 [.ref 318, .int (nI c), .int (nI 7)] (K, I, L, R, n, s) Q := by
  obtain ⟨-, -, hn⟩ := id hT
  refine Ok.enter (F := F_255) (ls := [.ref 318, .int (nI c), .int (nI 7)]) rfl rfl ?_
  refine wp_aload0 (pc' := 1) rfl rfl ?_
  refine wp_iconst (v := nI 0) (pc' := 2) rfl rfl rfl ?_
  refine wp_putI (pc' := 5) rfl rfl (by first | exact TK.k1 hT rfl | exact TK.kk hT rfl | exact TK.r hT rfl | assumption) (by omega) rfl ?_
  obtain ⟨M, hM⟩ : ∃ M, M = up2 I 318 0 (nI 0) := ⟨_, rfl⟩
  have hM9 : M 319 = I 319 := by rw [hM]; exact up2_row (by decide)
  have hM7 : M 318 7 = I 318 7 := by rw [hM, up2_same, if_neg (by decide)]
  rw [← hM]
  refine wp_aload0 (pc' := 6) rfl rfl ?_
  refine wp_iload1 (pc' := 7) rfl rfl ?_
  refine wp_callS1 (pc' := 10) rfl rfl rfl rfl rfl rfl ?_
  refine m_noCell1 hc ?_
  refine Cont.v ?_
  refine wp_iconst (v := nI 1) (pc' := 11) rfl rfl rfl ?_
  refine wp_callV3 (pc' := 14) rfl rfl rfl rfl rfl (by first | exact TK.k1 hT rfl | exact TK.kk hT rfl | exact TK.r hT rfl | assumption) rfl rfl ?_
  refine m_tfN hT ?_
  refine Cont.v ?_
  refine wp_ifneF (pc' := 17) rfl rfl rfl ?_
  refine wp_aload0 (pc' := 18) rfl rfl ?_
  refine wp_iload2 (pc' := 19) rfl rfl ?_
  refine wp_iconst (v := nI 0) (pc' := 20) rfl rfl rfl ?_
  refine wp_bipush (v := nI 16) (pc' := 22) rfl rfl rfl ?_
  refine wp_callS3 (pc' := 25) rfl rfl rfl rfl rfl rfl ?_
  refine m_in1 (by decide) (by decide) ?_
  refine Cont.v ?_
  refine wp_ifneT rfl (by decide) ?_
  refine wp_iconst (v := nI 0) (pc' := 33) rfl rfl rfl ?_
  refine wp_iconst (v := nI 2) (pc' := 34) rfl rfl rfl ?_
  refine wp_callV3 (pc' := 37) rfl rfl rfl rfl rfl (by first | exact TK.k1 hT rfl | exact TK.kk hT rfl | exact TK.r hT rfl | assumption) rfl rfl ?_
  refine m_tfN hT ?_
  refine Cont.v ?_
  refine wp_ifeqT rfl rfl ?_
  refine wp_iload2 (pc' := 43) rfl rfl ?_
  refine wp_sw (tg := 109) rfl rfl ?_
  refine wp_aload0 (pc' := 110) rfl rfl ?_
  refine wp_callV1 (pc' := 113) rfl rfl rfl rfl rfl (by first | exact TK.k1 hT rfl | exact TK.kk hT rfl | exact TK.r hT rfl | assumption) rfl rfl ?_
  refine m_allDrained hT ?_
  rw [hM9]
  refine Cont.v ?_
  refine wp_pool (v := .int (nI 33554431)) (pc' := 116) rfl rfl rfl rfl rfl ?_
  refine wp_callS2 (pc' := 119) rfl rfl rfl rfl rfl rfl ?_
  refine m_wider ?_
  refine Cont.v ?_
  refine wp_iload1 (pc' := 120) rfl rfl ?_
  refine wp_ishr (pc' := 121) rfl rfl ?_
  refine wp_iconst (v := nI 1) (pc' := 122) rfl rfl rfl ?_
  refine wp_iand (pc' := 123) rfl rfl ?_
  refine wp_iret rfl rfl rfl ?_
  rw [hM]
  exact kk
theorem m_cell8 {d : Nat} {K : Nat → Nat × Nat} {I : Nat → Nat → Int32} {L : Nat → Nat → Int64} {R : Nat → Nat → Option Nat} {n s : Nat} {Q : Lo → Lm → Prop} {c : Nat} (hT : TK K R n) (hc : c < 25) (kk : Q (.inl (some (.int (if openQ (Sv (I 319)) c then nI 1 else nI 0)))) (K, up2 I 318 0 (nI 0), L, R, n, s)) : Ok (d + 12) 255 [.ref 318, .int (nI c), .int (nI 8)] (K, I, L, R, n, s) Q := by
  obtain ⟨-, -, hn⟩ := id hT
  refine Ok.enter (F := F_255) (ls := [.ref 318, .int (nI c), .int (nI 8)]) rfl rfl ?_
  refine wp_aload0 (pc' := 1) rfl rfl ?_
  refine wp_iconst (v := nI 0) (pc' := 2) rfl rfl rfl ?_
  refine wp_putI (pc' := 5) rfl rfl (by first | exact TK.k1 hT rfl | exact TK.kk hT rfl | exact TK.r hT rfl | assumption) (by omega) rfl ?_
  obtain ⟨M, hM⟩ : ∃ M, M = up2 I 318 0 (nI 0) := ⟨_, rfl⟩
  have hM9 : M 319 = I 319 := by rw [hM]; exact up2_row (by decide)
  have hM7 : M 318 7 = I 318 7 := by rw [hM, up2_same, if_neg (by decide)]
  rw [← hM]
  refine wp_aload0 (pc' := 6) rfl rfl ?_
  refine wp_iload1 (pc' := 7) rfl rfl ?_
  refine wp_callS1 (pc' := 10) rfl rfl rfl rfl rfl rfl ?_
  refine m_noCell1 hc ?_
  refine Cont.v ?_
  refine wp_iconst (v := nI 1) (pc' := 11) rfl rfl rfl ?_
  refine wp_callV3 (pc' := 14) rfl rfl rfl rfl rfl (by first | exact TK.k1 hT rfl | exact TK.kk hT rfl | exact TK.r hT rfl | assumption) rfl rfl ?_
  refine m_tfN hT ?_
  refine Cont.v ?_
  refine wp_ifneF (pc' := 17) rfl rfl rfl ?_
  refine wp_aload0 (pc' := 18) rfl rfl ?_
  refine wp_iload2 (pc' := 19) rfl rfl ?_
  refine wp_iconst (v := nI 0) (pc' := 20) rfl rfl rfl ?_
  refine wp_bipush (v := nI 16) (pc' := 22) rfl rfl rfl ?_
  refine wp_callS3 (pc' := 25) rfl rfl rfl rfl rfl rfl ?_
  refine m_in1 (by decide) (by decide) ?_
  refine Cont.v ?_
  refine wp_ifneT rfl (by decide) ?_
  refine wp_iconst (v := nI 0) (pc' := 33) rfl rfl rfl ?_
  refine wp_iconst (v := nI 2) (pc' := 34) rfl rfl rfl ?_
  refine wp_callV3 (pc' := 37) rfl rfl rfl rfl rfl (by first | exact TK.k1 hT rfl | exact TK.kk hT rfl | exact TK.r hT rfl | assumption) rfl rfl ?_
  refine m_tfN hT ?_
  refine Cont.v ?_
  refine wp_ifeqT rfl rfl ?_
  refine wp_iload2 (pc' := 43) rfl rfl ?_
  refine wp_sw (tg := 124) rfl rfl ?_
  refine wp_aload0 (pc' := 125) rfl rfl ?_
  refine wp_iload1 (pc' := 126) rfl rfl ?_
  refine wp_callV2 (pc' := 129) rfl rfl rfl rfl rfl (by first | exact TK.k1 hT rfl | exact TK.kk hT rfl | exact TK.r hT rfl | assumption) rfl rfl ?_
  refine m_isOpen hT hc ?_
  rw [hM9]
  refine Cont.v ?_
  first | refine wp_ifeqB (pc' := 132) rfl rfl ?_ ?_ | refine wp_ifeq (pc' := 132) rfl rfl ?_ ?_
  · intro h129
    refine wp_iconst (v := nI 0) (pc' := 137) rfl rfl rfl ?_
    refine wp_iret rfl rfl rfl ?_
    rw [hM]
    first | exact Qv kk (by rw [if_pos h129]) rfl | exact Qv kk (by rw [if_neg h129]) rfl | exact kk
  · intro h129
    refine wp_iconst (v := nI 1) (pc' := 133) rfl rfl rfl ?_
    refine wp_goto rfl ?_
    refine wp_iret rfl rfl rfl ?_
    rw [hM]
    first | exact Qv kk (by rw [if_pos h129]) rfl | exact Qv kk (by rw [if_neg h129]) rfl | exact kk
theorem m_cell9 {d : Nat} {K : Nat → Nat × Nat} {I : Nat → Nat → Int32} {L : Nat → Nat → Int64} {R : Nat → Nat → Option Nat} {n s : Nat} {Q : Lo → Lm → Prop} {c : Nat} (hT : TK K R n) (hc : c < 25) {o : RwT} (hro : RO (I 319) o) (kk : ∀ J, AskJ I J → Q (.inl (some (.int (rgain (I 319) c o)))) (K, J, L, R, n, s)) : Ok (d + 12) 255 [.ref 318, .int (nI c), .int (nI 9)] (K, I, L, R, n, s) Q := by
  obtain ⟨-, -, hn⟩ := id hT
  refine Ok.enter (F := F_255) (ls := [.ref 318, .int (nI c), .int (nI 9)]) rfl rfl ?_
  refine wp_aload0 (pc' := 1) rfl rfl ?_
  refine wp_iconst (v := nI 0) (pc' := 2) rfl rfl rfl ?_
  refine wp_putI (pc' := 5) rfl rfl (by first | exact TK.k1 hT rfl | exact TK.kk hT rfl | exact TK.r hT rfl | assumption) (by omega) rfl ?_
  obtain ⟨M, hM⟩ : ∃ M, M = up2 I 318 0 (nI 0) := ⟨_, rfl⟩
  have hM9 : M 319 = I 319 := by rw [hM]; exact up2_row (by decide)
  have hM7 : M 318 7 = I 318 7 := by rw [hM, up2_same, if_neg (by decide)]
  rw [← hM]
  refine wp_aload0 (pc' := 6) rfl rfl ?_
  refine wp_iload1 (pc' := 7) rfl rfl ?_
  refine wp_callS1 (pc' := 10) rfl rfl rfl rfl rfl rfl ?_
  refine m_noCell1 hc ?_
  refine Cont.v ?_
  refine wp_iconst (v := nI 1) (pc' := 11) rfl rfl rfl ?_
  refine wp_callV3 (pc' := 14) rfl rfl rfl rfl rfl (by first | exact TK.k1 hT rfl | exact TK.kk hT rfl | exact TK.r hT rfl | assumption) rfl rfl ?_
  refine m_tfN hT ?_
  refine Cont.v ?_
  refine wp_ifneF (pc' := 17) rfl rfl rfl ?_
  refine wp_aload0 (pc' := 18) rfl rfl ?_
  refine wp_iload2 (pc' := 19) rfl rfl ?_
  refine wp_iconst (v := nI 0) (pc' := 20) rfl rfl rfl ?_
  refine wp_bipush (v := nI 16) (pc' := 22) rfl rfl rfl ?_
  refine wp_callS3 (pc' := 25) rfl rfl rfl rfl rfl rfl ?_
  refine m_in1 (by decide) (by decide) ?_
  refine Cont.v ?_
  refine wp_ifneT rfl (by decide) ?_
  refine wp_iconst (v := nI 0) (pc' := 33) rfl rfl rfl ?_
  refine wp_iconst (v := nI 2) (pc' := 34) rfl rfl rfl ?_
  refine wp_callV3 (pc' := 37) rfl rfl rfl rfl rfl (by first | exact TK.k1 hT rfl | exact TK.kk hT rfl | exact TK.r hT rfl | assumption) rfl rfl ?_
  refine m_tfN hT ?_
  refine Cont.v ?_
  refine wp_ifeqT rfl rfl ?_
  refine wp_iload2 (pc' := 43) rfl rfl ?_
  refine wp_sw (tg := 138) rfl rfl ?_
  refine wp_aload0 (pc' := 139) rfl rfl ?_
  refine wp_iload1 (pc' := 140) rfl rfl ?_
  refine wp_callV2 (pc' := 143) rfl rfl rfl rfl rfl (by first | exact TK.k1 hT rfl | exact TK.kk hT rfl | exact TK.r hT rfl | assumption) rfl rfl ?_
  refine m_gainOf (o := o) hT hc (by rw [hM9]; exact hro) (fun g => ?_)
  rw [hM9]
  refine Cont.v ?_
  refine wp_iret rfl rfl rfl ?_
  rw [hM]
  exact kk _ (ask_mk0 (KpS.rfl'.upr (by omega)) (by rw [upr_ne (by decide), up2_row (by decide)]))
theorem m_cell10 {d : Nat} {K : Nat → Nat × Nat} {I : Nat → Nat → Int32} {L : Nat → Nat → Int64} {R : Nat → Nat → Option Nat} {n s : Nat} {Q : Lo → Lm → Prop} {c : Nat} (hT : TK K R n) (hc : c < 25) {o : RwT} (hro : RO (I 319) o) (kk : ∀ J, AskJ I J → Q (.inl (some (.int (rsink (I 319) c o)))) (K, J, L, R, n, s)) : Ok (d + 12) 255 [.ref 318, .int (nI c), .int (nI 10)] (K, I, L, R, n, s) Q := by
  obtain ⟨-, -, hn⟩ := id hT
  refine Ok.enter (F := F_255) (ls := [.ref 318, .int (nI c), .int (nI 10)]) rfl rfl ?_
  refine wp_aload0 (pc' := 1) rfl rfl ?_
  refine wp_iconst (v := nI 0) (pc' := 2) rfl rfl rfl ?_
  refine wp_putI (pc' := 5) rfl rfl (by first | exact TK.k1 hT rfl | exact TK.kk hT rfl | exact TK.r hT rfl | assumption) (by omega) rfl ?_
  obtain ⟨M, hM⟩ : ∃ M, M = up2 I 318 0 (nI 0) := ⟨_, rfl⟩
  have hM9 : M 319 = I 319 := by rw [hM]; exact up2_row (by decide)
  have hM7 : M 318 7 = I 318 7 := by rw [hM, up2_same, if_neg (by decide)]
  rw [← hM]
  refine wp_aload0 (pc' := 6) rfl rfl ?_
  refine wp_iload1 (pc' := 7) rfl rfl ?_
  refine wp_callS1 (pc' := 10) rfl rfl rfl rfl rfl rfl ?_
  refine m_noCell1 hc ?_
  refine Cont.v ?_
  refine wp_iconst (v := nI 1) (pc' := 11) rfl rfl rfl ?_
  refine wp_callV3 (pc' := 14) rfl rfl rfl rfl rfl (by first | exact TK.k1 hT rfl | exact TK.kk hT rfl | exact TK.r hT rfl | assumption) rfl rfl ?_
  refine m_tfN hT ?_
  refine Cont.v ?_
  refine wp_ifneF (pc' := 17) rfl rfl rfl ?_
  refine wp_aload0 (pc' := 18) rfl rfl ?_
  refine wp_iload2 (pc' := 19) rfl rfl ?_
  refine wp_iconst (v := nI 0) (pc' := 20) rfl rfl rfl ?_
  refine wp_bipush (v := nI 16) (pc' := 22) rfl rfl rfl ?_
  refine wp_callS3 (pc' := 25) rfl rfl rfl rfl rfl rfl ?_
  refine m_in1 (by decide) (by decide) ?_
  refine Cont.v ?_
  refine wp_ifneT rfl (by decide) ?_
  refine wp_iconst (v := nI 0) (pc' := 33) rfl rfl rfl ?_
  refine wp_iconst (v := nI 2) (pc' := 34) rfl rfl rfl ?_
  refine wp_callV3 (pc' := 37) rfl rfl rfl rfl rfl (by first | exact TK.k1 hT rfl | exact TK.kk hT rfl | exact TK.r hT rfl | assumption) rfl rfl ?_
  refine m_tfN hT ?_
  refine Cont.v ?_
  refine wp_ifeqT rfl rfl ?_
  refine wp_iload2 (pc' := 43) rfl rfl ?_
  refine wp_sw (tg := 144) rfl rfl ?_
  refine wp_aload0 (pc' := 145) rfl rfl ?_
  refine wp_iload1 (pc' := 146) rfl rfl ?_
  refine wp_callV2 (pc' := 149) rfl rfl rfl rfl rfl (by first | exact TK.k1 hT rfl | exact TK.kk hT rfl | exact TK.r hT rfl | assumption) rfl rfl ?_
  refine m_sinksBy (o := o) hT hc (by rw [hM9]; exact hro) (fun g => ?_)
  rw [hM9]
  refine Cont.v ?_
  refine wp_iret rfl rfl rfl ?_
  rw [hM]
  exact kk _ (ask_mk0 (KpS.rfl'.upr (by omega)) (by rw [upr_ne (by decide), up2_row (by decide)]))
theorem m_cell11 {d : Nat} {K : Nat → Nat × Nat} {I : Nat → Nat → Int32} {L : Nat → Nat → Int64} {R : Nat → Nat → Option Nat} {n s : Nat} {Q : Lo → Lm → Prop} {c : Nat} (hT : TK K R n) (hc : c < 25) {dr : Nat → Nat} (hdr : ∀ q, q < 25 → I 319 (9 + 6 * q + 2) = nI (dr q) ∧ dr q ≤ 1) (kk : ∀ a, FixI (ditK dr) (ditU dr) a → ∀ J, AskJ I J → Q (.inl (some (.int (nI (a c))))) (K, J, L, R, n, s)) : Ok (d + 12) 255 [.ref 318, .int (nI c), .int (nI 11)] (K, I, L, R, n, s) Q := by
  obtain ⟨-, -, hn⟩ := id hT
  refine Ok.enter (F := F_255) (ls := [.ref 318, .int (nI c), .int (nI 11)]) rfl rfl ?_
  refine wp_aload0 (pc' := 1) rfl rfl ?_
  refine wp_iconst (v := nI 0) (pc' := 2) rfl rfl rfl ?_
  refine wp_putI (pc' := 5) rfl rfl (by first | exact TK.k1 hT rfl | exact TK.kk hT rfl | exact TK.r hT rfl | assumption) (by omega) rfl ?_
  obtain ⟨M, hM⟩ : ∃ M, M = up2 I 318 0 (nI 0) := ⟨_, rfl⟩
  have hM9 : M 319 = I 319 := by rw [hM]; exact up2_row (by decide)
  have hM7 : M 318 7 = I 318 7 := by rw [hM, up2_same, if_neg (by decide)]
  rw [← hM]
  refine wp_aload0 (pc' := 6) rfl rfl ?_
  refine wp_iload1 (pc' := 7) rfl rfl ?_
  refine wp_callS1 (pc' := 10) rfl rfl rfl rfl rfl rfl ?_
  refine m_noCell1 hc ?_
  refine Cont.v ?_
  refine wp_iconst (v := nI 1) (pc' := 11) rfl rfl rfl ?_
  refine wp_callV3 (pc' := 14) rfl rfl rfl rfl rfl (by first | exact TK.k1 hT rfl | exact TK.kk hT rfl | exact TK.r hT rfl | assumption) rfl rfl ?_
  refine m_tfN hT ?_
  refine Cont.v ?_
  refine wp_ifneF (pc' := 17) rfl rfl rfl ?_
  refine wp_aload0 (pc' := 18) rfl rfl ?_
  refine wp_iload2 (pc' := 19) rfl rfl ?_
  refine wp_iconst (v := nI 0) (pc' := 20) rfl rfl rfl ?_
  refine wp_bipush (v := nI 16) (pc' := 22) rfl rfl rfl ?_
  refine wp_callS3 (pc' := 25) rfl rfl rfl rfl rfl rfl ?_
  refine m_in1 (by decide) (by decide) ?_
  refine Cont.v ?_
  refine wp_ifneT rfl (by decide) ?_
  refine wp_iconst (v := nI 0) (pc' := 33) rfl rfl rfl ?_
  refine wp_iconst (v := nI 2) (pc' := 34) rfl rfl rfl ?_
  refine wp_callV3 (pc' := 37) rfl rfl rfl rfl rfl (by first | exact TK.k1 hT rfl | exact TK.kk hT rfl | exact TK.r hT rfl | assumption) rfl rfl ?_
  refine m_tfN hT ?_
  refine Cont.v ?_
  refine wp_ifeqT rfl rfl ?_
  refine wp_iload2 (pc' := 43) rfl rfl ?_
  refine wp_sw (tg := 150) rfl rfl ?_
  refine wp_aload0 (pc' := 151) rfl rfl ?_
  refine wp_iload1 (pc' := 152) rfl rfl ?_
  refine wp_callV2 (pc' := 155) rfl rfl rfl rfl rfl (by first | exact TK.k1 hT rfl | exact TK.kk hT rfl | exact TK.r hT rfl | assumption) rfl rfl ?_
  refine m_ditchOf (dr := dr) hT hc (by rw [hM9]; exact hdr) (fun a v hfx => ?_)
  refine Cont.v ?_
  refine wp_iret rfl rfl rfl ?_
  rw [hM]
  exact kk a hfx _ (ask_mk0 (KpS.rfl'.upr (by omega)) (by rw [upr_ne (by decide), up2_row (by decide)]))
theorem m_cell12 {d : Nat} {K : Nat → Nat × Nat} {I : Nat → Nat → Int32} {L : Nat → Nat → Int64} {R : Nat → Nat → Option Nat} {n s : Nat} {Q : Lo → Lm → Prop} {c : Nat} (hT : TK K R n) (hc : c < 25) {o : RwT} (hro : RO (I 319) o) {sk : Nat → Nat} (hsk : ∀ q, q < 25 → rsink (I 319) q o = nI (sk q) ∧ sk q ≤ 90000) (kk : ∀ a, FixI (wayK sk c) (wayU sk) a → ∀ J, AskJ I J → Q (.inl (some (.int (nI (mnN a 5 / 1000))))) (K, J, L, R, n, s)) : Ok (d + 12) 255 [.ref 318, .int (nI c), .int (nI 12)] (K, I, L, R, n, s) Q := by
  obtain ⟨-, -, hn⟩ := id hT
  refine Ok.enter (F := F_255) (ls := [.ref 318, .int (nI c), .int (nI 12)]) rfl rfl ?_
  refine wp_aload0 (pc' := 1) rfl rfl ?_
  refine wp_iconst (v := nI 0) (pc' := 2) rfl rfl rfl ?_
  refine wp_putI (pc' := 5) rfl rfl (by first | exact TK.k1 hT rfl | exact TK.kk hT rfl | exact TK.r hT rfl | assumption) (by omega) rfl ?_
  obtain ⟨M, hM⟩ : ∃ M, M = up2 I 318 0 (nI 0) := ⟨_, rfl⟩
  have hM9 : M 319 = I 319 := by rw [hM]; exact up2_row (by decide)
  have hM7 : M 318 7 = I 318 7 := by rw [hM, up2_same, if_neg (by decide)]
  rw [← hM]
  refine wp_aload0 (pc' := 6) rfl rfl ?_
  refine wp_iload1 (pc' := 7) rfl rfl ?_
  refine wp_callS1 (pc' := 10) rfl rfl rfl rfl rfl rfl ?_
  refine m_noCell1 hc ?_
  refine Cont.v ?_
  refine wp_iconst (v := nI 1) (pc' := 11) rfl rfl rfl ?_
  refine wp_callV3 (pc' := 14) rfl rfl rfl rfl rfl (by first | exact TK.k1 hT rfl | exact TK.kk hT rfl | exact TK.r hT rfl | assumption) rfl rfl ?_
  refine m_tfN hT ?_
  refine Cont.v ?_
  refine wp_ifneF (pc' := 17) rfl rfl rfl ?_
  refine wp_aload0 (pc' := 18) rfl rfl ?_
  refine wp_iload2 (pc' := 19) rfl rfl ?_
  refine wp_iconst (v := nI 0) (pc' := 20) rfl rfl rfl ?_
  refine wp_bipush (v := nI 16) (pc' := 22) rfl rfl rfl ?_
  refine wp_callS3 (pc' := 25) rfl rfl rfl rfl rfl rfl ?_
  refine m_in1 (by decide) (by decide) ?_
  refine Cont.v ?_
  refine wp_ifneT rfl (by decide) ?_
  refine wp_iconst (v := nI 0) (pc' := 33) rfl rfl rfl ?_
  refine wp_iconst (v := nI 2) (pc' := 34) rfl rfl rfl ?_
  refine wp_callV3 (pc' := 37) rfl rfl rfl rfl rfl (by first | exact TK.k1 hT rfl | exact TK.kk hT rfl | exact TK.r hT rfl | assumption) rfl rfl ?_
  refine m_tfN hT ?_
  refine Cont.v ?_
  refine wp_ifeqT rfl rfl ?_
  refine wp_iload2 (pc' := 43) rfl rfl ?_
  refine wp_sw (tg := 156) rfl rfl ?_
  refine wp_aload0 (pc' := 157) rfl rfl ?_
  refine wp_iload1 (pc' := 158) rfl rfl ?_
  refine wp_callV2 (pc' := 161) rfl rfl rfl rfl rfl (by first | exact TK.k1 hT rfl | exact TK.kk hT rfl | exact TK.r hT rfl | assumption) rfl rfl ?_
  refine m_wayOf (sk := sk) (o := o) hT hc (by rw [hM9]; exact hro) (by rw [hM9]; exact hsk) (fun a v g hfx => ?_)
  refine Cont.v ?_
  refine wp_sipush (v := nI 1000) (pc' := 164) rfl rfl rfl ?_
  first | refine wp_idivN (pc' := 165) rfl (by with_reducible rfl) (by with_reducible rfl) (by omega) (by omega) (by omega) rfl ?_ | refine wp_idiv (pc' := 165) rfl (by decide) rfl ?_
  refine wp_iret rfl rfl rfl ?_
  rw [hM]
  have hmn := mnN_le (a := a) 5
  exact Qv (kk a hfx _ (ask_mk0 ((KpS.rfl'.upr (b := 328) (by omega)).upr (b := 326) (by omega)) (by rw [upr_ne (by decide), upr_ne (by decide), up2_row (by decide)]))) (by first | with_reducible rfl | exact nI_div (by omega) (by decide)) rfl
theorem m_cell13 {d : Nat} {K : Nat → Nat × Nat} {I : Nat → Nat → Int32} {L : Nat → Nat → Int64} {R : Nat → Nat → Option Nat} {n s : Nat} {Q : Lo → Lm → Prop} {c : Nat} (hT : TK K R n) (hc : c < 25) {o : RwT} (hro : RO (I 319) o) {sk : Nat → Nat} (hsk : ∀ q, q < 25 → rsink (I 319) q o = nI (sk q) ∧ sk q ≤ 90000) (kk : ∀ a, FixI (wayK sk c) (wayU sk) a → ∀ J, AskJ I J → Q (.inl (some (.int (nI (mnN a 5 % 1000))))) (K, J, L, R, n, s)) : Ok (d + 12) 255 [.ref 318, .int (nI c), .int (nI 13)] (K, I, L, R, n, s) Q := by
  obtain ⟨-, -, hn⟩ := id hT
  refine Ok.enter (F := F_255) (ls := [.ref 318, .int (nI c), .int (nI 13)]) rfl rfl ?_
  refine wp_aload0 (pc' := 1) rfl rfl ?_
  refine wp_iconst (v := nI 0) (pc' := 2) rfl rfl rfl ?_
  refine wp_putI (pc' := 5) rfl rfl (by first | exact TK.k1 hT rfl | exact TK.kk hT rfl | exact TK.r hT rfl | assumption) (by omega) rfl ?_
  obtain ⟨M, hM⟩ : ∃ M, M = up2 I 318 0 (nI 0) := ⟨_, rfl⟩
  have hM9 : M 319 = I 319 := by rw [hM]; exact up2_row (by decide)
  have hM7 : M 318 7 = I 318 7 := by rw [hM, up2_same, if_neg (by decide)]
  rw [← hM]
  refine wp_aload0 (pc' := 6) rfl rfl ?_
  refine wp_iload1 (pc' := 7) rfl rfl ?_
  refine wp_callS1 (pc' := 10) rfl rfl rfl rfl rfl rfl ?_
  refine m_noCell1 hc ?_
  refine Cont.v ?_
  refine wp_iconst (v := nI 1) (pc' := 11) rfl rfl rfl ?_
  refine wp_callV3 (pc' := 14) rfl rfl rfl rfl rfl (by first | exact TK.k1 hT rfl | exact TK.kk hT rfl | exact TK.r hT rfl | assumption) rfl rfl ?_
  refine m_tfN hT ?_
  refine Cont.v ?_
  refine wp_ifneF (pc' := 17) rfl rfl rfl ?_
  refine wp_aload0 (pc' := 18) rfl rfl ?_
  refine wp_iload2 (pc' := 19) rfl rfl ?_
  refine wp_iconst (v := nI 0) (pc' := 20) rfl rfl rfl ?_
  refine wp_bipush (v := nI 16) (pc' := 22) rfl rfl rfl ?_
  refine wp_callS3 (pc' := 25) rfl rfl rfl rfl rfl rfl ?_
  refine m_in1 (by decide) (by decide) ?_
  refine Cont.v ?_
  refine wp_ifneT rfl (by decide) ?_
  refine wp_iconst (v := nI 0) (pc' := 33) rfl rfl rfl ?_
  refine wp_iconst (v := nI 2) (pc' := 34) rfl rfl rfl ?_
  refine wp_callV3 (pc' := 37) rfl rfl rfl rfl rfl (by first | exact TK.k1 hT rfl | exact TK.kk hT rfl | exact TK.r hT rfl | assumption) rfl rfl ?_
  refine m_tfN hT ?_
  refine Cont.v ?_
  refine wp_ifeqT rfl rfl ?_
  refine wp_iload2 (pc' := 43) rfl rfl ?_
  refine wp_sw (tg := 166) rfl rfl ?_
  refine wp_aload0 (pc' := 167) rfl rfl ?_
  refine wp_iload1 (pc' := 168) rfl rfl ?_
  refine wp_callV2 (pc' := 171) rfl rfl rfl rfl rfl (by first | exact TK.k1 hT rfl | exact TK.kk hT rfl | exact TK.r hT rfl | assumption) rfl rfl ?_
  refine m_wayOf (sk := sk) (o := o) hT hc (by rw [hM9]; exact hro) (by rw [hM9]; exact hsk) (fun a v g hfx => ?_)
  refine Cont.v ?_
  refine wp_sipush (v := nI 1000) (pc' := 174) rfl rfl rfl ?_
  first | refine wp_iremN (pc' := 175) rfl (by with_reducible rfl) (by with_reducible rfl) (by omega) (by omega) (by omega) rfl ?_ | refine wp_irem (pc' := 175) rfl (by decide) rfl ?_
  refine wp_iret rfl rfl rfl ?_
  rw [hM]
  have hmn := mnN_le (a := a) 5
  exact Qv (kk a hfx _ (ask_mk0 ((KpS.rfl'.upr (b := 328) (by omega)).upr (b := 326) (by omega)) (by rw [upr_ne (by decide), upr_ne (by decide), up2_row (by decide)]))) (by first | with_reducible rfl | exact nI_rem (by omega) (by decide)) rfl
theorem m_cell14 {d : Nat} {K : Nat → Nat × Nat} {I : Nat → Nat → Int32} {L : Nat → Nat → Int64} {R : Nat → Nat → Option Nat} {n s : Nat} {Q : Lo → Lm → Prop} {c : Nat} (hT : TK K R n) (hc : c < 25) {o : RwT} {H : Nat} (hdw : DWk (I 319) o H) (kk : ∀ J, AskJ I J → Q (.inl (some (.int (frsW (fun i => ripW (gonW true (I 319) o H i).2 c) 61)))) (K, J, L, R, n, s)) : Ok (d + 12) 255 [.ref 318, .int (nI c), .int (nI 14)] (K, I, L, R, n, s) Q := by
  obtain ⟨-, -, hn⟩ := id hT
  refine Ok.enter (F := F_255) (ls := [.ref 318, .int (nI c), .int (nI 14)]) rfl rfl ?_
  refine wp_aload0 (pc' := 1) rfl rfl ?_
  refine wp_iconst (v := nI 0) (pc' := 2) rfl rfl rfl ?_
  refine wp_putI (pc' := 5) rfl rfl (by first | exact TK.k1 hT rfl | exact TK.kk hT rfl | exact TK.r hT rfl | assumption) (by omega) rfl ?_
  obtain ⟨M, hM⟩ : ∃ M, M = up2 I 318 0 (nI 0) := ⟨_, rfl⟩
  have hM9 : M 319 = I 319 := by rw [hM]; exact up2_row (by decide)
  have hM7 : M 318 7 = I 318 7 := by rw [hM, up2_same, if_neg (by decide)]
  rw [← hM]
  refine wp_aload0 (pc' := 6) rfl rfl ?_
  refine wp_iload1 (pc' := 7) rfl rfl ?_
  refine wp_callS1 (pc' := 10) rfl rfl rfl rfl rfl rfl ?_
  refine m_noCell1 hc ?_
  refine Cont.v ?_
  refine wp_iconst (v := nI 1) (pc' := 11) rfl rfl rfl ?_
  refine wp_callV3 (pc' := 14) rfl rfl rfl rfl rfl (by first | exact TK.k1 hT rfl | exact TK.kk hT rfl | exact TK.r hT rfl | assumption) rfl rfl ?_
  refine m_tfN hT ?_
  refine Cont.v ?_
  refine wp_ifneF (pc' := 17) rfl rfl rfl ?_
  refine wp_aload0 (pc' := 18) rfl rfl ?_
  refine wp_iload2 (pc' := 19) rfl rfl ?_
  refine wp_iconst (v := nI 0) (pc' := 20) rfl rfl rfl ?_
  refine wp_bipush (v := nI 16) (pc' := 22) rfl rfl rfl ?_
  refine wp_callS3 (pc' := 25) rfl rfl rfl rfl rfl rfl ?_
  refine m_in1 (by decide) (by decide) ?_
  refine Cont.v ?_
  refine wp_ifneT rfl (by decide) ?_
  refine wp_iconst (v := nI 0) (pc' := 33) rfl rfl rfl ?_
  refine wp_iconst (v := nI 2) (pc' := 34) rfl rfl rfl ?_
  refine wp_callV3 (pc' := 37) rfl rfl rfl rfl rfl (by first | exact TK.k1 hT rfl | exact TK.kk hT rfl | exact TK.r hT rfl | assumption) rfl rfl ?_
  refine m_tfN hT ?_
  refine Cont.v ?_
  refine wp_ifeqT rfl rfl ?_
  refine wp_iload2 (pc' := 43) rfl rfl ?_
  refine wp_sw (tg := 176) rfl rfl ?_
  refine wp_aload0 (pc' := 177) rfl rfl ?_
  refine wp_iload1 (pc' := 178) rfl rfl ?_
  refine wp_iconst (v := nI 1) (pc' := 179) rfl rfl rfl ?_
  refine wp_callV3 (pc' := 182) rfl rfl rfl rfl rfl (by first | exact TK.k1 hT rfl | exact TK.kk hT rfl | exact TK.r hT rfl | assumption) rfl rfl ?_
  refine m_firstRipe (o := o) (H := H) hT hc (by rw [hM9]; exact hdw) (fun g J hJ hJ9 => ?_)
  rw [hM9] at hJ9 ⊢
  refine Cont.v ?_
  refine wp_iret rfl rfl rfl ?_
  rw [hM] at hJ
  exact kk _ (ask_mk hJ hJ9)
theorem m_cell15 {d : Nat} {K : Nat → Nat × Nat} {I : Nat → Nat → Int32} {L : Nat → Nat → Int64} {R : Nat → Nat → Option Nat} {n s : Nat} {Q : Lo → Lm → Prop} {c : Nat} (hT : TK K R n) (hc : c < 25) {o : RwT} {H : Nat} (hdw : DWk (I 319) o H) (kk : ∀ J, AskJ I J → Q (.inl (some (.int (frsW (fun i => openQ (Sv (gonW true (I 319) o H i).2) c) 61)))) (K, J, L, R, n, s)) : Ok (d + 12) 255 [.ref 318, .int (nI c), .int (nI 15)] (K, I, L, R, n, s) Q := by
  obtain ⟨-, -, hn⟩ := id hT
  refine Ok.enter (F := F_255) (ls := [.ref 318, .int (nI c), .int (nI 15)]) rfl rfl ?_
  refine wp_aload0 (pc' := 1) rfl rfl ?_
  refine wp_iconst (v := nI 0) (pc' := 2) rfl rfl rfl ?_
  refine wp_putI (pc' := 5) rfl rfl (by first | exact TK.k1 hT rfl | exact TK.kk hT rfl | exact TK.r hT rfl | assumption) (by omega) rfl ?_
  obtain ⟨M, hM⟩ : ∃ M, M = up2 I 318 0 (nI 0) := ⟨_, rfl⟩
  have hM9 : M 319 = I 319 := by rw [hM]; exact up2_row (by decide)
  have hM7 : M 318 7 = I 318 7 := by rw [hM, up2_same, if_neg (by decide)]
  rw [← hM]
  refine wp_aload0 (pc' := 6) rfl rfl ?_
  refine wp_iload1 (pc' := 7) rfl rfl ?_
  refine wp_callS1 (pc' := 10) rfl rfl rfl rfl rfl rfl ?_
  refine m_noCell1 hc ?_
  refine Cont.v ?_
  refine wp_iconst (v := nI 1) (pc' := 11) rfl rfl rfl ?_
  refine wp_callV3 (pc' := 14) rfl rfl rfl rfl rfl (by first | exact TK.k1 hT rfl | exact TK.kk hT rfl | exact TK.r hT rfl | assumption) rfl rfl ?_
  refine m_tfN hT ?_
  refine Cont.v ?_
  refine wp_ifneF (pc' := 17) rfl rfl rfl ?_
  refine wp_aload0 (pc' := 18) rfl rfl ?_
  refine wp_iload2 (pc' := 19) rfl rfl ?_
  refine wp_iconst (v := nI 0) (pc' := 20) rfl rfl rfl ?_
  refine wp_bipush (v := nI 16) (pc' := 22) rfl rfl rfl ?_
  refine wp_callS3 (pc' := 25) rfl rfl rfl rfl rfl rfl ?_
  refine m_in1 (by decide) (by decide) ?_
  refine Cont.v ?_
  refine wp_ifneT rfl (by decide) ?_
  refine wp_iconst (v := nI 0) (pc' := 33) rfl rfl rfl ?_
  refine wp_iconst (v := nI 2) (pc' := 34) rfl rfl rfl ?_
  refine wp_callV3 (pc' := 37) rfl rfl rfl rfl rfl (by first | exact TK.k1 hT rfl | exact TK.kk hT rfl | exact TK.r hT rfl | assumption) rfl rfl ?_
  refine m_tfN hT ?_
  refine Cont.v ?_
  refine wp_ifeqT rfl rfl ?_
  refine wp_iload2 (pc' := 43) rfl rfl ?_
  refine wp_sw (tg := 183) rfl rfl ?_
  refine wp_aload0 (pc' := 184) rfl rfl ?_
  refine wp_iload1 (pc' := 185) rfl rfl ?_
  refine wp_iconst (v := nI 0) (pc' := 186) rfl rfl rfl ?_
  refine wp_callV3 (pc' := 189) rfl rfl rfl rfl rfl (by first | exact TK.k1 hT rfl | exact TK.kk hT rfl | exact TK.r hT rfl | assumption) rfl rfl ?_
  refine m_firstOpen (o := o) (H := H) hT hc (by rw [hM9]; exact hdw) (fun g J hJ hJ9 => ?_)
  rw [hM9] at hJ9 ⊢
  refine Cont.v ?_
  refine wp_iret rfl rfl rfl ?_
  rw [hM] at hJ
  exact kk _ (ask_mk hJ hJ9)
theorem m_cell16 {d : Nat} {K : Nat → Nat × Nat} {I : Nat → Nat → Int32} {L : Nat → Nat → Int64} {R : Nat → Nat → Option Nat} {n s : Nat} {Q : Lo → Lm → Prop} {c : Nat} (hT : TK K R n) (hc : c < 25) {H : Nat} (hw : I 319 0 = nI H) (hH6 : H ≤ 6) (kk : Q (.inl (some (.int (ownS (Sv (I 319)) c H)))) (K, up2 I 318 0 (nI 0), L, R, n, s)) : Ok (d + 12) 255 [.ref 318, .int (nI c), .int (nI 16)] (K, I, L, R, n, s) Q := by
  obtain ⟨-, -, hn⟩ := id hT
  refine Ok.enter (F := F_255) (ls := [.ref 318, .int (nI c), .int (nI 16)]) rfl rfl ?_
  refine wp_aload0 (pc' := 1) rfl rfl ?_
  refine wp_iconst (v := nI 0) (pc' := 2) rfl rfl rfl ?_
  refine wp_putI (pc' := 5) rfl rfl (by first | exact TK.k1 hT rfl | exact TK.kk hT rfl | exact TK.r hT rfl | assumption) (by omega) rfl ?_
  obtain ⟨M, hM⟩ : ∃ M, M = up2 I 318 0 (nI 0) := ⟨_, rfl⟩
  have hM9 : M 319 = I 319 := by rw [hM]; exact up2_row (by decide)
  have hM7 : M 318 7 = I 318 7 := by rw [hM, up2_same, if_neg (by decide)]
  rw [← hM]
  refine wp_aload0 (pc' := 6) rfl rfl ?_
  refine wp_iload1 (pc' := 7) rfl rfl ?_
  refine wp_callS1 (pc' := 10) rfl rfl rfl rfl rfl rfl ?_
  refine m_noCell1 hc ?_
  refine Cont.v ?_
  refine wp_iconst (v := nI 1) (pc' := 11) rfl rfl rfl ?_
  refine wp_callV3 (pc' := 14) rfl rfl rfl rfl rfl (by first | exact TK.k1 hT rfl | exact TK.kk hT rfl | exact TK.r hT rfl | assumption) rfl rfl ?_
  refine m_tfN hT ?_
  refine Cont.v ?_
  refine wp_ifneF (pc' := 17) rfl rfl rfl ?_
  refine wp_aload0 (pc' := 18) rfl rfl ?_
  refine wp_iload2 (pc' := 19) rfl rfl ?_
  refine wp_iconst (v := nI 0) (pc' := 20) rfl rfl rfl ?_
  refine wp_bipush (v := nI 16) (pc' := 22) rfl rfl rfl ?_
  refine wp_callS3 (pc' := 25) rfl rfl rfl rfl rfl rfl ?_
  refine m_in1 (by decide) (by decide) ?_
  refine Cont.v ?_
  refine wp_ifneT rfl (by decide) ?_
  refine wp_iconst (v := nI 0) (pc' := 33) rfl rfl rfl ?_
  refine wp_iconst (v := nI 2) (pc' := 34) rfl rfl rfl ?_
  refine wp_callV3 (pc' := 37) rfl rfl rfl rfl rfl (by first | exact TK.k1 hT rfl | exact TK.kk hT rfl | exact TK.r hT rfl | assumption) rfl rfl ?_
  refine m_tfN hT ?_
  refine Cont.v ?_
  refine wp_ifeqT rfl rfl ?_
  refine wp_iload2 (pc' := 43) rfl rfl ?_
  refine wp_sw (tg := 190) rfl rfl ?_
  refine wp_aload0 (pc' := 191) rfl rfl ?_
  refine wp_iload1 (pc' := 192) rfl rfl ?_
  refine wp_callV2 (pc' := 195) rfl rfl rfl rfl rfl (by first | exact TK.k1 hT rfl | exact TK.kk hT rfl | exact TK.r hT rfl | assumption) rfl rfl ?_
  refine m_ownersOf hT (by rw [hM9]; exact hw) hH6 ?_
  rw [hM9]
  refine Cont.v ?_
  refine wp_iret rfl rfl rfl ?_
  rw [hM]
  exact kk
theorem m_cellE1 {d : Nat} {K : Nat → Nat × Nat} {I : Nat → Nat → Int32} {L : Nat → Nat → Int64} {R : Nat → Nat → Option Nat} {n s : Nat} {Q : Lo → Lm → Prop} {x y : Int32} (hT : TK K R n) (hx : ¬ InR x 25) (kk : Q (.inl (some (.int (nI 0)))) (K, up2 I 318 0 (nI 1), L, R, n, s)) : Ok (d + 12) 255 [.ref 318, .int x, .int y] (K, I, L, R, n, s) Q := by
  obtain ⟨-, -, hn⟩ := id hT
  refine Ok.enter (F := F_255) (ls := [.ref 318, .int x, .int y]) rfl rfl ?_
  refine wp_aload0 (pc' := 1) rfl rfl ?_
  refine wp_iconst (v := nI 0) (pc' := 2) rfl rfl rfl ?_
  refine wp_putI (pc' := 5) rfl rfl (by first | exact TK.k1 hT rfl | exact TK.kk hT rfl | exact TK.r hT rfl | assumption) (by omega) rfl ?_
  refine wp_aload0 (pc' := 6) rfl rfl ?_
  refine wp_iload1 (pc' := 7) rfl rfl ?_
  refine wp_callS1 (pc' := 10) rfl rfl rfl rfl rfl rfl ?_
  refine m_noCell0 hx ?_
  refine Cont.v ?_
  refine wp_iconst (v := nI 1) (pc' := 11) rfl rfl rfl ?_
  refine wp_callV3 (pc' := 14) rfl rfl rfl rfl rfl (by first | exact TK.k1 hT rfl | exact TK.kk hT rfl | exact TK.r hT rfl | assumption) rfl rfl ?_
  refine m_tfY hT ?_
  refine Cont.v ?_
  refine wp_ifneT rfl (by decide) ?_
  refine wp_iconst (v := nI 0) (pc' := 41) rfl rfl rfl ?_
  refine wp_iret rfl rfl rfl ?_
  rw [up318]
  exact kk
theorem m_cellE2 {d : Nat} {K : Nat → Nat × Nat} {I : Nat → Nat → Int32} {L : Nat → Nat → Int64} {R : Nat → Nat → Option Nat} {n s : Nat} {Q : Lo → Lm → Prop} {c : Nat} {y : Int32} (hT : TK K R n) (hc : c < 25) (hy : ¬ InR y 17) (kk : Q (.inl (some (.int (nI 0)))) (K, up2 I 318 0 (nI 2), L, R, n, s)) : Ok (d + 12) 255 [.ref 318, .int (nI c), .int y] (K, I, L, R, n, s) Q := by
  obtain ⟨-, -, hn⟩ := id hT
  refine Ok.enter (F := F_255) (ls := [.ref 318, .int (nI c), .int y]) rfl rfl ?_
  refine wp_aload0 (pc' := 1) rfl rfl ?_
  refine wp_iconst (v := nI 0) (pc' := 2) rfl rfl rfl ?_
  refine wp_putI (pc' := 5) rfl rfl (by first | exact TK.k1 hT rfl | exact TK.kk hT rfl | exact TK.r hT rfl | assumption) (by omega) rfl ?_
  refine wp_aload0 (pc' := 6) rfl rfl ?_
  refine wp_iload1 (pc' := 7) rfl rfl ?_
  refine wp_callS1 (pc' := 10) rfl rfl rfl rfl rfl rfl ?_
  refine m_noCell1 hc ?_
  refine Cont.v ?_
  refine wp_iconst (v := nI 1) (pc' := 11) rfl rfl rfl ?_
  refine wp_callV3 (pc' := 14) rfl rfl rfl rfl rfl (by first | exact TK.k1 hT rfl | exact TK.kk hT rfl | exact TK.r hT rfl | assumption) rfl rfl ?_
  refine m_tfN hT ?_
  refine Cont.v ?_
  refine wp_ifneF (pc' := 17) rfl rfl rfl ?_
  refine wp_aload0 (pc' := 18) rfl rfl ?_
  refine wp_iload2 (pc' := 19) rfl rfl ?_
  refine wp_iconst (v := nI 0) (pc' := 20) rfl rfl rfl ?_
  refine wp_bipush (v := nI 16) (pc' := 22) rfl rfl rfl ?_
  refine wp_callS3 (pc' := 25) rfl rfl rfl rfl rfl rfl ?_
  refine m_in0 (fun q => hy ((InR_iff (k := 16) (by decide)).mp q)) ?_
  refine Cont.v ?_
  refine wp_ifneF (pc' := 28) rfl rfl rfl ?_
  refine wp_iconst (v := nI 1) (pc' := 29) rfl rfl rfl ?_
  refine wp_goto rfl ?_
  refine wp_iconst (v := nI 2) (pc' := 34) rfl rfl rfl ?_
  refine wp_callV3 (pc' := 37) rfl rfl rfl rfl rfl (by first | exact TK.k1 hT rfl | exact TK.kk hT rfl | exact TK.r hT rfl | assumption) rfl rfl ?_
  refine m_tfY hT ?_
  refine Cont.v ?_
  refine wp_ifeqF (pc' := 40) rfl (by decide) rfl ?_
  refine wp_iconst (v := nI 0) (pc' := 41) rfl rfl rfl ?_
  refine wp_iret rfl rfl rfl ?_
  rw [up318]
  exact kk
