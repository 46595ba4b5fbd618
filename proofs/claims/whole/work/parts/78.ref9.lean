/-! THE REFERENCE: trade, days, days that are only tried -/
/-- only what is worked with has changed, and nothing is thrown -/
def AskJ (I J : Mem) : Prop := (∀ a, (a < 318 ∨ a = 320 ∨ a = 321 ∨ a = 323 ∨ a = 324 ∨ 337 ≤ a) → J a = I a) ∧ (∀ j, j ≠ 0 → J 318 j = I 318 j) ∧ J 318 0 = nI 0 ∧ J 319 = I 319
theorem ask_mk {I J : Mem} {g : Nat → Int32} (h : KpS (upr (up2 I 318 0 (nI 0)) 322 g) J) (h9 : J 319 = I 319) : AskJ I J :=
  ⟨fun a ha => by rw [h a (by omega), upr_ne (by omega), up2_ne (by omega)], fun j hj => by rw [h 318 (by omega), upr_ne (by decide), up2_same, if_neg hj], by rw [h 318 (by omega), upr_ne (by decide), up2_hit], h9⟩

theorem m_trade {d : Nat} {K : Nat → Nat × Nat} {I : Nat → Nat → Int32} {L : Nat → Nat → Int64} {R : Nat → Nat → Option Nat} {n s : Nat} {Q : Lo → Lm → Prop} {A h g k : Nat} (hT : TK K R n) {H : Nat} (hw : I 319 0 = nI H) (hH6 : H ≤ 6) (hA : I 318 7 = nI A) (hA12 : A ≤ 12) (hh : h < H) (hg : g < H) (hne : ¬ h = g) (hk1 : 1 ≤ k) (hk9 : k ≤ 999) (hst : ¬ I 319 (159 + 4 * h + 2) < nI k) (kk : ∀ J, ActJ A I J ((up1 (up1 (I 319) (159 + 4 * h + 2) (I 319 (159 + 4 * h + 2) - nI k)) (159 + 4 * g + 2) (jmin (nI 999) (I 319 (159 + 4 * g + 2) + nI k)))) → Q (.inl (some (.int (jmin (nI 999) (I 319 (159 + 4 * g + 2) + nI k))))) (K, J, L, R, n, s)) : Ok (d + 5) 303 [.ref 318, .int (nI h), .int (nI g), .int (nI k)] (K, I, L, R, n, s) Q := by
  obtain ⟨-, -, hn⟩ := id hT
  refine Ok.enter (F := F_303) (ls := [.ref 318, .int (nI h), .int (nI g), .int (nI k)]) rfl rfl ?_
  refine wp_aload0 (pc' := 1) rfl rfl ?_
  refine wp_iconst (v := nI 0) (pc' := 2) rfl rfl rfl ?_
  refine wp_putI (pc' := 5) rfl rfl (by first | exact TK.k1 hT rfl | exact TK.kk hT rfl | exact TK.r hT rfl | assumption) (by omega) rfl ?_
  obtain ⟨M, hM⟩ : ∃ M, M = up2 I 318 0 (nI 0) := ⟨_, rfl⟩
  have hM9 : M 319 = I 319 := by rw [hM]; exact up2_row (by decide)
  have hM7 : M 318 7 = I 318 7 := by rw [hM, up2_same, if_neg (by decide)]
  rw [← hM]
  refine wp_aload0 (pc' := 6) rfl rfl ?_
  refine wp_aload0 (pc' := 7) rfl rfl ?_
  refine wp_iload1 (pc' := 8) rfl rfl ?_
  refine wp_callV2 (pc' := 11) rfl rfl rfl rfl rfl (by first | exact TK.k1 hT rfl | exact TK.kk hT rfl | exact TK.r hT rfl | assumption) rfl rfl ?_
  refine m_noH1 hT (by rw [hM9]; exact hw) hH6 hh ?_
  refine Cont.v ?_
  refine wp_ifneF (pc' := 14) rfl rfl rfl ?_
  refine wp_aload0 (pc' := 15) rfl rfl ?_
  refine wp_iload2 (pc' := 16) rfl rfl ?_
  refine wp_callV2 (pc' := 19) rfl rfl rfl rfl rfl (by first | exact TK.k1 hT rfl | exact TK.kk hT rfl | exact TK.r hT rfl | assumption) rfl rfl ?_
  refine m_noH1 hT (by rw [hM9]; exact hw) hH6 hg ?_
  refine Cont.v ?_
  refine wp_ifeqT rfl rfl ?_
  refine wp_iconst (v := nI 0) (pc' := 27) rfl rfl rfl ?_
  refine wp_iconst (v := nI 1) (pc' := 28) rfl rfl rfl ?_
  refine wp_callV3 (pc' := 31) rfl rfl rfl rfl rfl (by first | exact TK.k1 hT rfl | exact TK.kk hT rfl | exact TK.r hT rfl | assumption) rfl rfl ?_
  refine m_tfN hT ?_
  refine Cont.v ?_
  refine wp_ifneF (pc' := 34) rfl rfl rfl ?_
  refine wp_aload0 (pc' := 35) rfl rfl ?_
  refine wp_iload1 (pc' := 36) rfl rfl ?_
  refine wp_iload2 (pc' := 37) rfl rfl ?_
  refine wp_icmpeqF (pc' := 40) rfl (fun q => hne ((nI_eq (by omega) (by omega)).mp q)) rfl ?_
  refine wp_iload3 (pc' := 41) rfl rfl ?_
  refine wp_iconst (v := nI 1) (pc' := 42) rfl rfl rfl ?_
  refine wp_sipush (v := nI 999) (pc' := 45) rfl rfl rfl ?_
  refine wp_callS3 (pc' := 48) rfl rfl rfl rfl rfl rfl ?_
  refine m_in1 (nI_nlt (by omega) (by omega)) (nI_nlt (by omega) (by omega)) ?_
  refine Cont.v ?_
  refine wp_ifneT rfl (by decide) ?_
  refine wp_iconst (v := nI 0) (pc' := 56) rfl rfl rfl ?_
  refine wp_iconst (v := nI 2) (pc' := 57) rfl rfl rfl ?_
  refine wp_callV3 (pc' := 60) rfl rfl rfl rfl rfl (by first | exact TK.k1 hT rfl | exact TK.kk hT rfl | exact TK.r hT rfl | assumption) rfl rfl ?_
  refine m_tfN hT ?_
  refine Cont.v ?_
  refine wp_ifneF (pc' := 63) rfl rfl rfl ?_
  refine wp_aload0 (pc' := 64) rfl rfl ?_
  refine wp_aload0 (pc' := 65) rfl rfl ?_
  refine wp_iload1 (pc' := 66) rfl rfl ?_
  refine wp_iconst (v := nI 2) (pc' := 67) rfl rfl rfl ?_
  refine wp_callV3 (pc' := 70) rfl rfl rfl rfl rfl (by first | exact TK.k1 hT rfl | exact TK.kk hT rfl | exact TK.r hT rfl | assumption) rfl rfl ?_
  refine m_ofH hT (by omega) (by decide) ?_
  rw [hM9]
  refine Cont.v ?_
  refine wp_iload3 (pc' := 71) rfl rfl ?_
  refine wp_icmpgeT rfl hst ?_
  refine wp_iconst (v := nI 0) (pc' := 79) rfl rfl rfl ?_
  refine wp_iconst (v := nI 3) (pc' := 80) rfl rfl rfl ?_
  refine wp_callV3 (pc' := 83) rfl rfl rfl rfl rfl (by first | exact TK.k1 hT rfl | exact TK.kk hT rfl | exact TK.r hT rfl | assumption) rfl rfl ?_
  refine m_tfN hT ?_
  refine Cont.v ?_
  refine wp_ifeqT rfl rfl ?_
  refine wp_aload0 (pc' := 89) rfl rfl ?_
  refine wp_iload1 (pc' := 90) rfl rfl ?_
  refine wp_iconst (v := nI 2) (pc' := 91) rfl rfl rfl ?_
  refine wp_callS2 (pc' := 94) rfl rfl rfl rfl rfl rfl ?_
  refine m_hearthAt ?_
  refine Cont.v ?_
  refine wp_aload0 (pc' := 95) rfl rfl ?_
  refine wp_iload1 (pc' := 96) rfl rfl ?_
  refine wp_iconst (v := nI 2) (pc' := 97) rfl rfl rfl ?_
  refine wp_callV3 (pc' := 100) rfl rfl rfl rfl rfl (by first | exact TK.k1 hT rfl | exact TK.kk hT rfl | exact TK.r hT rfl | assumption) rfl rfl ?_
  refine m_ofH hT (by omega) (by decide) ?_
  rw [hM9]
  refine Cont.v ?_
  refine wp_iload3 (pc' := 101) rfl rfl ?_
  first | refine wp_isubN (pc' := 102) rfl (by with_reducible rfl) (by with_reducible rfl) (by omega) rfl ?_ | refine wp_isub (pc' := 102) rfl rfl ?_
  refine wp_callV3 (pc' := 105) rfl rfl rfl rfl rfl (by first | exact TK.k1 hT rfl | exact TK.kk hT rfl | exact TK.r hT rfl | assumption) rfl rfl ?_
  refine m_isNow hT (by rw [hM7]; exact hA) hA12 (by omega) (fun J hJ => ?_)
  rw [hM] at hJ
  rw [hM9]
  refine Cont.v ?_
  refine wp_pop (pc' := 106) rfl rfl rfl ?_
  refine wp_aload0 (pc' := 107) rfl rfl ?_
  refine wp_getRF (pc' := 110) rfl rfl (by first | exact TK.k1 hT rfl | exact TK.kk hT rfl | exact TK.r hT rfl | assumption) (by first | exact TK.k1 hT rfl | exact TK.kk hT rfl | exact TK.r hT rfl | assumption) rfl ?_
  refine wp_iload2 (pc' := 111) rfl rfl ?_
  refine wp_iconst (v := nI 2) (pc' := 112) rfl rfl rfl ?_
  refine wp_callS2 (pc' := 115) rfl rfl rfl rfl rfl rfl ?_
  refine m_hearthAt ?_
  refine Cont.v ?_
  refine wp_sipush (v := nI 999) (pc' := 118) rfl rfl rfl ?_
  refine wp_aload0 (pc' := 119) rfl rfl ?_
  refine wp_iload2 (pc' := 120) rfl rfl ?_
  refine wp_iconst (v := nI 2) (pc' := 121) rfl rfl rfl ?_
  refine wp_callV3 (pc' := 124) rfl rfl rfl rfl rfl (by first | exact TK.k1 hT rfl | exact TK.kk hT rfl | exact TK.r hT rfl | assumption) rfl rfl ?_
  refine m_ofH hT (by omega) (by decide) ?_
  rw [upr_same, up1_ne (by omega)]
  refine Cont.v ?_
  refine wp_iload3 (pc' := 125) rfl rfl ?_
  first | refine wp_iaddN (pc' := 126) rfl (by with_reducible rfl) (by with_reducible rfl) rfl ?_ | refine wp_iadd (pc' := 126) rfl rfl ?_
  refine wp_min (pc' := 129) rfl rfl rfl rfl ?_
  refine wp_iast _ (pc' := 130) rfl (by first | exact TK.k1 hT rfl | exact TK.kk hT rfl | exact TK.r hT rfl | assumption) (by omega) (by with_reducible rfl) (by omega) (by first | decide | assumption | omega) rfl ?_
  refine wp_aload0 (pc' := 131) rfl rfl ?_
  refine wp_iload2 (pc' := 132) rfl rfl ?_
  refine wp_iconst (v := nI 2) (pc' := 133) rfl rfl rfl ?_
  refine wp_callV3 (pc' := 136) rfl rfl rfl rfl rfl (by first | exact TK.k1 hT rfl | exact TK.kk hT rfl | exact TK.r hT rfl | assumption) rfl rfl ?_
  refine m_ofH hT (by omega) (by decide) ?_
  rw [up2_hit]
  refine Cont.v ?_
  refine wp_iret rfl rfl rfl ?_
  rw [up2_upr]
  exact kk _ (act_mk hJ (KpS.rfl'.upr (by omega)) upr_same)
theorem m_tradeE1a {d : Nat} {K : Nat → Nat × Nat} {I : Nat → Nat → Int32} {L : Nat → Nat → Int64} {R : Nat → Nat → Option Nat} {n s : Nat} {Q : Lo → Lm → Prop} {x y z : Int32} (hT : TK K R n) {H : Nat} (hw : I 319 0 = nI H) (hH6 : H ≤ 6) (hx : ¬ InR x H) (kk : Q (.inl (some (.int (nI 0)))) (K, up2 I 318 0 (nI 1), L, R, n, s)) : Ok (d + 5) 303 [.ref 318, .int x, .int y, .int z] (K, I, L, R, n, s) Q := by
  obtain ⟨-, -, hn⟩ := id hT
  refine Ok.enter (F := F_303) (ls := [.ref 318, .int x, .int y, .int z]) rfl rfl ?_
  refine wp_aload0 (pc' := 1) rfl rfl ?_
  refine wp_iconst (v := nI 0) (pc' := 2) rfl rfl rfl ?_
  refine wp_putI (pc' := 5) rfl rfl (by first | exact TK.k1 hT rfl | exact TK.kk hT rfl | exact TK.r hT rfl | assumption) (by omega) rfl ?_
  refine wp_aload0 (pc' := 6) rfl rfl ?_
  refine wp_aload0 (pc' := 7) rfl rfl ?_
  refine wp_iload1 (pc' := 8) rfl rfl ?_
  refine wp_callV2 (pc' := 11) rfl rfl rfl rfl rfl (by first | exact TK.k1 hT rfl | exact TK.kk hT rfl | exact TK.r hT rfl | assumption) rfl rfl ?_
  refine m_noH0 hT (by rw [up2_row (by decide)]; exact hw) hH6 hx ?_
  refine Cont.v ?_
  refine wp_ifneT rfl (by decide) ?_
  refine wp_iconst (v := nI 1) (pc' := 23) rfl rfl rfl ?_
  refine wp_goto rfl ?_
  refine wp_iconst (v := nI 1) (pc' := 28) rfl rfl rfl ?_
  refine wp_callV3 (pc' := 31) rfl rfl rfl rfl rfl (by first | exact TK.k1 hT rfl | exact TK.kk hT rfl | exact TK.r hT rfl | assumption) rfl rfl ?_
  refine m_tfY hT ?_
  refine Cont.v ?_
  refine wp_ifneT rfl (by decide) ?_
  refine wp_iconst (v := nI 0) (pc' := 87) rfl rfl rfl ?_
  refine wp_iret rfl rfl rfl ?_
  rw [up318]
  exact kk
theorem m_tradeE1b {d : Nat} {K : Nat → Nat × Nat} {I : Nat → Nat → Int32} {L : Nat → Nat → Int64} {R : Nat → Nat → Option Nat} {n s : Nat} {Q : Lo → Lm → Prop} {h : Nat} {y z : Int32} (hT : TK K R n) {H : Nat} (hw : I 319 0 = nI H) (hH6 : H ≤ 6) (hh : h < H) (hx : ¬ InR y H) (kk : Q (.inl (some (.int (nI 0)))) (K, up2 I 318 0 (nI 1), L, R, n, s)) : Ok (d + 5) 303 [.ref 318, .int (nI h), .int y, .int z] (K, I, L, R, n, s) Q := by
  obtain ⟨-, -, hn⟩ := id hT
  refine Ok.enter (F := F_303) (ls := [.ref 318, .int (nI h), .int y, .int z]) rfl rfl ?_
  refine wp_aload0 (pc' := 1) rfl rfl ?_
  refine wp_iconst (v := nI 0) (pc' := 2) rfl rfl rfl ?_
  refine wp_putI (pc' := 5) rfl rfl (by first | exact TK.k1 hT rfl | exact TK.kk hT rfl | exact TK.r hT rfl | assumption) (by omega) rfl ?_
  refine wp_aload0 (pc' := 6) rfl rfl ?_
  refine wp_aload0 (pc' := 7) rfl rfl ?_
  refine wp_iload1 (pc' := 8) rfl rfl ?_
  refine wp_callV2 (pc' := 11) rfl rfl rfl rfl rfl (by first | exact TK.k1 hT rfl | exact TK.kk hT rfl | exact TK.r hT rfl | assumption) rfl rfl ?_
  refine m_noH1 hT (by rw [up2_row (by decide)]; exact hw) hH6 hh ?_
  refine Cont.v ?_
  refine wp_ifneF (pc' := 14) rfl rfl rfl ?_
  refine wp_aload0 (pc' := 15) rfl rfl ?_
  refine wp_iload2 (pc' := 16) rfl rfl ?_
  refine wp_callV2 (pc' := 19) rfl rfl rfl rfl rfl (by first | exact TK.k1 hT rfl | exact TK.kk hT rfl | exact TK.r hT rfl | assumption) rfl rfl ?_
  refine m_noH0 hT (by rw [up2_row (by decide)]; exact hw) hH6 hx ?_
  refine Cont.v ?_
  refine wp_ifeqF (pc' := 22) rfl (by decide) rfl ?_
  refine wp_iconst (v := nI 1) (pc' := 23) rfl rfl rfl ?_
  refine wp_goto rfl ?_
  refine wp_iconst (v := nI 1) (pc' := 28) rfl rfl rfl ?_
  refine wp_callV3 (pc' := 31) rfl rfl rfl rfl rfl (by first | exact TK.k1 hT rfl | exact TK.kk hT rfl | exact TK.r hT rfl | assumption) rfl rfl ?_
  refine m_tfY hT ?_
  refine Cont.v ?_
  refine wp_ifneT rfl (by decide) ?_
  refine wp_iconst (v := nI 0) (pc' := 87) rfl rfl rfl ?_
  refine wp_iret rfl rfl rfl ?_
  rw [up318]
  exact kk
theorem m_tradeE2a {d : Nat} {K : Nat → Nat × Nat} {I : Nat → Nat → Int32} {L : Nat → Nat → Int64} {R : Nat → Nat → Option Nat} {n s : Nat} {Q : Lo → Lm → Prop} {h : Nat} {z : Int32} (hT : TK K R n) {H : Nat} (hw : I 319 0 = nI H) (hH6 : H ≤ 6) (hh : h < H) (kk : Q (.inl (some (.int (nI 0)))) (K, up2 I 318 0 (nI 2), L, R, n, s)) : Ok (d + 5) 303 [.ref 318, .int (nI h), .int (nI h), .int z] (K, I, L, R, n, s) Q := by
  obtain ⟨-, -, hn⟩ := id hT
  refine Ok.enter (F := F_303) (ls := [.ref 318, .int (nI h), .int (nI h), .int z]) rfl rfl ?_
  refine wp_aload0 (pc' := 1) rfl rfl ?_
  refine wp_iconst (v := nI 0) (pc' := 2) rfl rfl rfl ?_
  refine wp_putI (pc' := 5) rfl rfl (by first | exact TK.k1 hT rfl | exact TK.kk hT rfl | exact TK.r hT rfl | assumption) (by omega) rfl ?_
  refine wp_aload0 (pc' := 6) rfl rfl ?_
  refine wp_aload0 (pc' := 7) rfl rfl ?_
  refine wp_iload1 (pc' := 8) rfl rfl ?_
  refine wp_callV2 (pc' := 11) rfl rfl rfl rfl rfl (by first | exact TK.k1 hT rfl | exact TK.kk hT rfl | exact TK.r hT rfl | assumption) rfl rfl ?_
  refine m_noH1 hT (by rw [up2_row (by decide)]; exact hw) hH6 hh ?_
  refine Cont.v ?_
  refine wp_ifneF (pc' := 14) rfl rfl rfl ?_
  refine wp_aload0 (pc' := 15) rfl rfl ?_
  refine wp_iload2 (pc' := 16) rfl rfl ?_
  refine wp_callV2 (pc' := 19) rfl rfl rfl rfl rfl (by first | exact TK.k1 hT rfl | exact TK.kk hT rfl | exact TK.r hT rfl | assumption) rfl rfl ?_
  refine m_noH1 hT (by rw [up2_row (by decide)]; exact hw) hH6 hh ?_
  refine Cont.v ?_
  refine wp_ifeqT rfl rfl ?_
  refine wp_iconst (v := nI 0) (pc' := 27) rfl rfl rfl ?_
  refine wp_iconst (v := nI 1) (pc' := 28) rfl rfl rfl ?_
  refine wp_callV3 (pc' := 31) rfl rfl rfl rfl rfl (by first | exact TK.k1 hT rfl | exact TK.kk hT rfl | exact TK.r hT rfl | assumption) rfl rfl ?_
  refine m_tfN hT ?_
  refine Cont.v ?_
  refine wp_ifneF (pc' := 34) rfl rfl rfl ?_
  refine wp_aload0 (pc' := 35) rfl rfl ?_
  refine wp_iload1 (pc' := 36) rfl rfl ?_
  refine wp_iload2 (pc' := 37) rfl rfl ?_
  refine wp_icmpeqT rfl rfl ?_
  refine wp_iconst (v := nI 1) (pc' := 52) rfl rfl rfl ?_
  refine wp_goto rfl ?_
  refine wp_iconst (v := nI 2) (pc' := 57) rfl rfl rfl ?_
  refine wp_callV3 (pc' := 60) rfl rfl rfl rfl rfl (by first | exact TK.k1 hT rfl | exact TK.kk hT rfl | exact TK.r hT rfl | assumption) rfl rfl ?_
  refine m_tfY hT ?_
  refine Cont.v ?_
  refine wp_ifneT rfl (by decide) ?_
  refine wp_iconst (v := nI 0) (pc' := 87) rfl rfl rfl ?_
  refine wp_iret rfl rfl rfl ?_
  rw [up318]
  exact kk
theorem m_tradeE2b {d : Nat} {K : Nat → Nat × Nat} {I : Nat → Nat → Int32} {L : Nat → Nat → Int64} {R : Nat → Nat → Option Nat} {n s : Nat} {Q : Lo → Lm → Prop} {h g : Nat} {z : Int32} (hT : TK K R n) {H : Nat} (hw : I 319 0 = nI H) (hH6 : H ≤ 6) (hh : h < H) (hg : g < H) (hne : ¬ h = g) (hz : ¬ (¬ z < nI 1 ∧ ¬ nI 999 < z)) (kk : Q (.inl (some (.int (nI 0)))) (K, up2 I 318 0 (nI 2), L, R, n, s)) : Ok (d + 5) 303 [.ref 318, .int (nI h), .int (nI g), .int z] (K, I, L, R, n, s) Q := by
  obtain ⟨-, -, hn⟩ := id hT
  refine Ok.enter (F := F_303) (ls := [.ref 318, .int (nI h), .int (nI g), .int z]) rfl rfl ?_
  refine wp_aload0 (pc' := 1) rfl rfl ?_
  refine wp_iconst (v := nI 0) (pc' := 2) rfl rfl rfl ?_
  refine wp_putI (pc' := 5) rfl rfl (by first | exact TK.k1 hT rfl | exact TK.kk hT rfl | exact TK.r hT rfl | assumption) (by omega) rfl ?_
  refine wp_aload0 (pc' := 6) rfl rfl ?_
  refine wp_aload0 (pc' := 7) rfl rfl ?_
  refine wp_iload1 (pc' := 8) rfl rfl ?_
  refine wp_callV2 (pc' := 11) rfl rfl rfl rfl rfl (by first | exact TK.k1 hT rfl | exact TK.kk hT rfl | exact TK.r hT rfl | assumption) rfl rfl ?_
  refine m_noH1 hT (by rw [up2_row (by decide)]; exact hw) hH6 hh ?_
  refine Cont.v ?_
  refine wp_ifneF (pc' := 14) rfl rfl rfl ?_
  refine wp_aload0 (pc' := 15) rfl rfl ?_
  refine wp_iload2 (pc' := 16) rfl rfl ?_
  refine wp_callV2 (pc' := 19) rfl rfl rfl rfl rfl (by first | exact TK.k1 hT rfl | exact TK.kk hT rfl | exact TK.r hT rfl | assumption) rfl rfl ?_
  refine m_noH1 hT (by rw [up2_row (by decide)]; exact hw) hH6 hg ?_
  refine Cont.v ?_
  refine wp_ifeqT rfl rfl ?_
  refine wp_iconst (v := nI 0) (pc' := 27) rfl rfl rfl ?_
  refine wp_iconst (v := nI 1) (pc' := 28) rfl rfl rfl ?_
  refine wp_callV3 (pc' := 31) rfl rfl rfl rfl rfl (by first | exact TK.k1 hT rfl | exact TK.kk hT rfl | exact TK.r hT rfl | assumption) rfl rfl ?_
  refine m_tfN hT ?_
  refine Cont.v ?_
  refine wp_ifneF (pc' := 34) rfl rfl rfl ?_
  refine wp_aload0 (pc' := 35) rfl rfl ?_
  refine wp_iload1 (pc' := 36) rfl rfl ?_
  refine wp_iload2 (pc' := 37) rfl rfl ?_
  refine wp_icmpeqF (pc' := 40) rfl (fun q => hne ((nI_eq (by omega) (by omega)).mp q)) rfl ?_
  refine wp_iload3 (pc' := 41) rfl rfl ?_
  refine wp_iconst (v := nI 1) (pc' := 42) rfl rfl rfl ?_
  refine wp_sipush (v := nI 999) (pc' := 45) rfl rfl rfl ?_
  refine wp_callS3 (pc' := 48) rfl rfl rfl rfl rfl rfl ?_
  refine m_in0 hz ?_
  refine Cont.v ?_
  refine wp_ifneF (pc' := 51) rfl rfl rfl ?_
  refine wp_iconst (v := nI 1) (pc' := 52) rfl rfl rfl ?_
  refine wp_goto rfl ?_
  refine wp_iconst (v := nI 2) (pc' := 57) rfl rfl rfl ?_
  refine wp_callV3 (pc' := 60) rfl rfl rfl rfl rfl (by first | exact TK.k1 hT rfl | exact TK.kk hT rfl | exact TK.r hT rfl | assumption) rfl rfl ?_
  refine m_tfY hT ?_
  refine Cont.v ?_
  refine wp_ifneT rfl (by decide) ?_
  refine wp_iconst (v := nI 0) (pc' := 87) rfl rfl rfl ?_
  refine wp_iret rfl rfl rfl ?_
  rw [up318]
  exact kk
theorem m_tradeE3 {d : Nat} {K : Nat → Nat × Nat} {I : Nat → Nat → Int32} {L : Nat → Nat → Int64} {R : Nat → Nat → Option Nat} {n s : Nat} {Q : Lo → Lm → Prop} {h g : Nat} {z : Int32} (hT : TK K R n) {H : Nat} (hw : I 319 0 = nI H) (hH6 : H ≤ 6) (hh : h < H) (hg : g < H) (hne : ¬ h = g) (hz1 : ¬ z < nI 1) (hz9 : ¬ nI 999 < z) (hst : I 319 (159 + 4 * h + 2) < z) (kk : Q (.inl (some (.int (nI 0)))) (K, up2 I 318 0 (nI 3), L, R, n, s)) : Ok (d + 5) 303 [.ref 318, .int (nI h), .int (nI g), .int z] (K, I, L, R, n, s) Q := by
  obtain ⟨-, -, hn⟩ := id hT
  refine Ok.enter (F := F_303) (ls := [.ref 318, .int (nI h), .int (nI g), .int z]) rfl rfl ?_
  refine wp_aload0 (pc' := 1) rfl rfl ?_
  refine wp_iconst (v := nI 0) (pc' := 2) rfl rfl rfl ?_
  refine wp_putI (pc' := 5) rfl rfl (by first | exact TK.k1 hT rfl | exact TK.kk hT rfl | exact TK.r hT rfl | assumption) (by omega) rfl ?_
  refine wp_aload0 (pc' := 6) rfl rfl ?_
  refine wp_aload0 (pc' := 7) rfl rfl ?_
  refine wp_iload1 (pc' := 8) rfl rfl ?_
  refine wp_callV2 (pc' := 11) rfl rfl rfl rfl rfl (by first | exact TK.k1 hT rfl | exact TK.kk hT rfl | exact TK.r hT rfl | assumption) rfl rfl ?_
  refine m_noH1 hT (by rw [up2_row (by decide)]; exact hw) hH6 hh ?_
  refine Cont.v ?_
  refine wp_ifneF (pc' := 14) rfl rfl rfl ?_
  refine wp_aload0 (pc' := 15) rfl rfl ?_
  refine wp_iload2 (pc' := 16) rfl rfl ?_
  refine wp_callV2 (pc' := 19) rfl rfl rfl rfl rfl (by first | exact TK.k1 hT rfl | exact TK.kk hT rfl | exact TK.r hT rfl | assumption) rfl rfl ?_
  refine m_noH1 hT (by rw [up2_row (by decide)]; exact hw) hH6 hg ?_
  refine Cont.v ?_
  refine wp_ifeqT rfl rfl ?_
  refine wp_iconst (v := nI 0) (pc' := 27) rfl rfl rfl ?_
  refine wp_iconst (v := nI 1) (pc' := 28) rfl rfl rfl ?_
  refine wp_callV3 (pc' := 31) rfl rfl rfl rfl rfl (by first | exact TK.k1 hT rfl | exact TK.kk hT rfl | exact TK.r hT rfl | assumption) rfl rfl ?_
  refine m_tfN hT ?_
  refine Cont.v ?_
  refine wp_ifneF (pc' := 34) rfl rfl rfl ?_
  refine wp_aload0 (pc' := 35) rfl rfl ?_
  refine wp_iload1 (pc' := 36) rfl rfl ?_
  refine wp_iload2 (pc' := 37) rfl rfl ?_
  refine wp_icmpeqF (pc' := 40) rfl (fun q => hne ((nI_eq (by omega) (by omega)).mp q)) rfl ?_
  refine wp_iload3 (pc' := 41) rfl rfl ?_
  refine wp_iconst (v := nI 1) (pc' := 42) rfl rfl rfl ?_
  refine wp_sipush (v := nI 999) (pc' := 45) rfl rfl rfl ?_
  refine wp_callS3 (pc' := 48) rfl rfl rfl rfl rfl rfl ?_
  refine m_in1 hz1 hz9 ?_
  refine Cont.v ?_
  refine wp_ifneT rfl (by decide) ?_
  refine wp_iconst (v := nI 0) (pc' := 56) rfl rfl rfl ?_
  refine wp_iconst (v := nI 2) (pc' := 57) rfl rfl rfl ?_
  refine wp_callV3 (pc' := 60) rfl rfl rfl rfl rfl (by first | exact TK.k1 hT rfl | exact TK.kk hT rfl | exact TK.r hT rfl | assumption) rfl rfl ?_
  refine m_tfN hT ?_
  refine Cont.v ?_
  refine wp_ifneF (pc' := 63) rfl rfl rfl ?_
  refine wp_aload0 (pc' := 64) rfl rfl ?_
  refine wp_aload0 (pc' := 65) rfl rfl ?_
  refine wp_iload1 (pc' := 66) rfl rfl ?_
  refine wp_iconst (v := nI 2) (pc' := 67) rfl rfl rfl ?_
  refine wp_callV3 (pc' := 70) rfl rfl rfl rfl rfl (by first | exact TK.k1 hT rfl | exact TK.kk hT rfl | exact TK.r hT rfl | assumption) rfl rfl ?_
  refine m_ofH hT (by omega) (by decide) ?_
  rw [up2_row (by decide)]
  refine Cont.v ?_
  refine wp_iload3 (pc' := 71) rfl rfl ?_
  refine wp_icmpgeF (pc' := 74) rfl hst rfl ?_
  refine wp_iconst (v := nI 1) (pc' := 75) rfl rfl rfl ?_
  refine wp_goto rfl ?_
  refine wp_iconst (v := nI 3) (pc' := 80) rfl rfl rfl ?_
  refine wp_callV3 (pc' := 83) rfl rfl rfl rfl rfl (by first | exact TK.k1 hT rfl | exact TK.kk hT rfl | exact TK.r hT rfl | assumption) rfl rfl ?_
  refine m_tfY hT ?_
  refine Cont.v ?_
  refine wp_ifeqF (pc' := 86) rfl (by decide) rfl ?_
  refine wp_iconst (v := nI 0) (pc' := 87) rfl rfl rfl ?_
  refine wp_iret rfl rfl rfl ?_
  rw [up318]
  exact kk
theorem m_days {d : Nat} {K : Nat → Nat × Nat} {I : Nat → Nat → Int32} {L : Nat → Nat → Int64} {R : Nat → Nat → Option Nat} {n s : Nat} {Q : Lo → Lm → Prop} {A k : Nat} (hT : TK K R n) {o : RwT} {H : Nat} (hdw : DWk (I 319) o H) (hA : I 318 7 = nI A) (hA12 : A ≤ 12) (hk1 : 1 ≤ k) (hk60 : k ≤ 60) (kk : ∀ J, ActJ A I J ((gonW false (I 319) o H k).2) → Q (.inl (some (.int ((gonW false (I 319) o H k).1)))) (K, J, L, R, n, s)) : Ok (d + 12) 290 [.ref 318, .int (nI k)] (K, I, L, R, n, s) Q := by
  obtain ⟨-, -, hn⟩ := id hT
  refine Ok.enter (F := F_290) (ls := [.ref 318, .int (nI k)]) rfl rfl ?_
  refine wp_aload0 (pc' := 1) rfl rfl ?_
  refine wp_iconst (v := nI 0) (pc' := 2) rfl rfl rfl ?_
  refine wp_putI (pc' := 5) rfl rfl (by first | exact TK.k1 hT rfl | exact TK.kk hT rfl | exact TK.r hT rfl | assumption) (by omega) rfl ?_
  obtain ⟨M, hM⟩ : ∃ M, M = up2 I 318 0 (nI 0) := ⟨_, rfl⟩
  have hM9 : M 319 = I 319 := by rw [hM]; exact up2_row (by decide)
  have hM7 : M 318 7 = I 318 7 := by rw [hM, up2_same, if_neg (by decide)]
  rw [← hM]
  refine wp_aload0 (pc' := 6) rfl rfl ?_
  refine wp_iload1 (pc' := 7) rfl rfl ?_
  refine wp_iconst (v := nI 1) (pc' := 8) rfl rfl rfl ?_
  refine wp_bipush (v := nI 60) (pc' := 10) rfl rfl rfl ?_
  refine wp_callS3 (pc' := 13) rfl rfl rfl rfl rfl rfl ?_
  refine m_in1 (nI_nlt (by omega) (by omega)) (nI_nlt (by omega) (by omega)) ?_
  refine Cont.v ?_
  refine wp_ifneT rfl (by decide) ?_
  refine wp_iconst (v := nI 0) (pc' := 21) rfl rfl rfl ?_
  refine wp_iconst (v := nI 1) (pc' := 22) rfl rfl rfl ?_
  refine wp_callV3 (pc' := 25) rfl rfl rfl rfl rfl (by first | exact TK.k1 hT rfl | exact TK.kk hT rfl | exact TK.r hT rfl | assumption) rfl rfl ?_
  refine m_tfN hT ?_
  refine Cont.v ?_
  refine wp_ifeqT rfl rfl ?_
  refine wp_aload0 (pc' := 31) rfl rfl ?_
  refine wp_callV1 (pc' := 34) rfl rfl rfl rfl rfl (by first | exact TK.k1 hT rfl | exact TK.kk hT rfl | exact TK.r hT rfl | assumption) rfl rfl ?_
  refine m_remembers hT (by rw [hM7]; exact hA) hA12 (fun J hJ => ?_)
  have hJ9 : J 319 = I 319 := (hJ.1 319 (by decide) (by decide)).trans hM9
  rw [hM] at hJ
  refine Cont.u ?_
  refine wp_aload0 (pc' := 35) rfl rfl ?_
  refine wp_iload1 (pc' := 36) rfl rfl ?_
  refine wp_iconst (v := nI 0) (pc' := 37) rfl rfl rfl ?_
  refine wp_callV3 (pc' := 40) rfl rfl rfl rfl rfl (by first | exact TK.k1 hT rfl | exact TK.kk hT rfl | exact TK.r hT rfl | assumption) rfl rfl ?_
  refine m_goesOn0 (o := o) (H := H) hT (by rw [hJ9]; exact hdw) hk60 (fun N hN hN9 => ?_)
  rw [hJ9] at hN9 ⊢
  refine Cont.v ?_
  refine wp_iret rfl rfl rfl ?_
  exact kk _ (act_mk hJ hN hN9)
theorem m_daysE {d : Nat} {K : Nat → Nat × Nat} {I : Nat → Nat → Int32} {L : Nat → Nat → Int64} {R : Nat → Nat → Option Nat} {n s : Nat} {Q : Lo → Lm → Prop} {x : Int32} (hT : TK K R n) (hz : ¬ (¬ x < nI 1 ∧ ¬ nI 60 < x)) (kk : Q (.inl (some (.int (nI 0)))) (K, up2 I 318 0 (nI 1), L, R, n, s)) : Ok (d + 12) 290 [.ref 318, .int x] (K, I, L, R, n, s) Q := by
  obtain ⟨-, -, hn⟩ := id hT
  refine Ok.enter (F := F_290) (ls := [.ref 318, .int x]) rfl rfl ?_
  refine wp_aload0 (pc' := 1) rfl rfl ?_
  refine wp_iconst (v := nI 0) (pc' := 2) rfl rfl rfl ?_
  refine wp_putI (pc' := 5) rfl rfl (by first | exact TK.k1 hT rfl | exact TK.kk hT rfl | exact TK.r hT rfl | assumption) (by omega) rfl ?_
  refine wp_aload0 (pc' := 6) rfl rfl ?_
  refine wp_iload1 (pc' := 7) rfl rfl ?_
  refine wp_iconst (v := nI 1) (pc' := 8) rfl rfl rfl ?_
  refine wp_bipush (v := nI 60) (pc' := 10) rfl rfl rfl ?_
  refine wp_callS3 (pc' := 13) rfl rfl rfl rfl rfl rfl ?_
  refine m_in0 hz ?_
  refine Cont.v ?_
  refine wp_ifneF (pc' := 16) rfl rfl rfl ?_
  refine wp_iconst (v := nI 1) (pc' := 17) rfl rfl rfl ?_
  refine wp_goto rfl ?_
  refine wp_iconst (v := nI 1) (pc' := 22) rfl rfl rfl ?_
  refine wp_callV3 (pc' := 25) rfl rfl rfl rfl rfl (by first | exact TK.k1 hT rfl | exact TK.kk hT rfl | exact TK.r hT rfl | assumption) rfl rfl ?_
  refine m_tfY hT ?_
  refine Cont.v ?_
  refine wp_ifeqF (pc' := 28) rfl (by decide) rfl ?_
  refine wp_iconst (v := nI 0) (pc' := 29) rfl rfl rfl ?_
  refine wp_iret rfl rfl rfl ?_
  rw [up318]
  exact kk
theorem m_ahead {d : Nat} {K : Nat → Nat × Nat} {I : Nat → Nat → Int32} {L : Nat → Nat → Int64} {R : Nat → Nat → Option Nat} {n s : Nat} {Q : Lo → Lm → Prop} {c k q : Nat} (hT : TK K R n) {o : RwT} {H : Nat} (hdw : DWk (I 319) o H) (hc : c < 25) (hk60 : k ≤ 60) (hq : q < 4) (kk : ∀ J, AskJ I J → Q (.inl (some (.int ((gonW true (I 319) o H k).2 (9 + 6 * c + (if q < 2 then q else q + 1)))))) (K, J, L, R, n, s)) : Ok (d + 12) 359 [.ref 318, .int (nI c), .int (nI k), .int (nI q)] (K, I, L, R, n, s) Q := by
  obtain ⟨-, -, hn⟩ := id hT
  refine Ok.enter (F := F_359) (ls := [.ref 318, .int (nI c), .int (nI k), .int (nI q), lDead]) rfl rfl ?_
  refine wp_aload0 (pc' := 1) rfl rfl ?_
  refine wp_iconst (v := nI 0) (pc' := 2) rfl rfl rfl ?_
  refine wp_putI (pc' := 5) rfl rfl (by first | exact TK.k1 hT rfl | exact TK.kk hT rfl | exact TK.r hT rfl | assumption) (by omega) rfl ?_
  obtain ⟨M, hM⟩ : ∃ M, M = up2 I 318 0 (nI 0) := ⟨_, rfl⟩
  have hM9 : M 319 = I 319 := by rw [hM]; exact up2_row (by decide)
  have hM7 : M 318 7 = I 318 7 := by rw [hM, up2_same, if_neg (by decide)]
  rw [← hM]
  refine wp_aload0 (pc' := 6) rfl rfl ?_
  refine wp_iload1 (pc' := 7) rfl rfl ?_
  refine wp_callS1 (pc' := 10) rfl rfl rfl rfl rfl rfl ?_
  refine m_noCell1 hc ?_
  refine Cont.v ?_
  refine wp_iconst (v := nI 1) (pc' := 11) rfl rfl rfl ?_
  refine wp_callV3 (pc' := 14) rfl rfl rfl rfl rfl (by first | exact TK.k1 hT rfl | exact TK.kk hT rfl | exact TK.r hT rfl | assumption) rfl rfl ?_
  refine m_tfN hT ?_
  refine Cont.v ?_
  refine wp_ifneF (pc' := 17) rfl rfl rfl ?_
  refine wp_aload0 (pc' := 18) rfl rfl ?_
  refine wp_iload2 (pc' := 19) rfl rfl ?_
  refine wp_callS1 (pc' := 22) rfl rfl rfl rfl rfl rfl ?_
  refine m_noDays1 hk60 ?_
  refine Cont.v ?_
  refine wp_iconst (v := nI 2) (pc' := 23) rfl rfl rfl ?_
  refine wp_callV3 (pc' := 26) rfl rfl rfl rfl rfl (by first | exact TK.k1 hT rfl | exact TK.kk hT rfl | exact TK.r hT rfl | assumption) rfl rfl ?_
  refine m_tfN hT ?_
  refine Cont.v ?_
  refine wp_ifneF (pc' := 29) rfl rfl rfl ?_
  refine wp_aload0 (pc' := 30) rfl rfl ?_
  refine wp_iload3 (pc' := 31) rfl rfl ?_
  refine wp_iconst (v := nI 0) (pc' := 32) rfl rfl rfl ?_
  refine wp_iconst (v := nI 3) (pc' := 33) rfl rfl rfl ?_
  refine wp_callS3 (pc' := 36) rfl rfl rfl rfl rfl rfl ?_
  refine m_in1 (nI_pos (by omega)) (nI_nlt (by omega) (by omega)) ?_
  refine Cont.v ?_
  refine wp_ifneT rfl (by decide) ?_
  refine wp_iconst (v := nI 0) (pc' := 44) rfl rfl rfl ?_
  refine wp_iconst (v := nI 3) (pc' := 45) rfl rfl rfl ?_
  refine wp_callV3 (pc' := 48) rfl rfl rfl rfl rfl (by first | exact TK.k1 hT rfl | exact TK.kk hT rfl | exact TK.r hT rfl | assumption) rfl rfl ?_
  refine m_tfN hT ?_
  refine Cont.v ?_
  refine wp_ifeqT rfl rfl ?_
  refine wp_aload0 (pc' := 54) rfl rfl ?_
  refine wp_callV1 (pc' := 57) rfl rfl rfl rfl rfl (by first | exact TK.k1 hT rfl | exact TK.kk hT rfl | exact TK.r hT rfl | assumption) rfl rfl ?_
  refine m_keepsAll hT ?_
  rw [hM9]
  obtain ⟨N, hN⟩ : ∃ N, N = upr M 322 (cpy 483 (I 319) (M 322)) := ⟨_, rfl⟩
  have hN9 : N 319 = I 319 := by rw [hN, upr_ne (by decide)]; exact hM9
  rw [← hN]
  refine Cont.u ?_
  refine wp_aload0 (pc' := 58) rfl rfl ?_
  refine wp_iload2 (pc' := 59) rfl rfl ?_
  refine wp_iconst (v := nI 1) (pc' := 60) rfl rfl rfl ?_
  refine wp_callV3 (pc' := 63) rfl rfl rfl rfl rfl (by first | exact TK.k1 hT rfl | exact TK.kk hT rfl | exact TK.r hT rfl | assumption) rfl rfl ?_
  refine m_goesOn1 (o := o) (H := H) hT (by rw [hN9]; exact hdw) hk60 (fun J hJ hJ9 => ?_)
  rw [hN9] at hJ9 ⊢
  refine Cont.v ?_
  refine wp_pop (pc' := 64) rfl rfl rfl ?_
  refine wp_aload0 (pc' := 65) rfl rfl ?_
  refine wp_iload1 (pc' := 66) rfl rfl ?_
  refine wp_iload3 (pc' := 67) rfl rfl ?_
  refine wp_iconst (v := nI 2) (pc' := 68) rfl rfl rfl ?_
  refine wp_icmpge (pc' := 71) rfl rfl ?_ ?_
  · intro h68
    refine wp_iload3 (pc' := 76) rfl rfl ?_
    refine wp_iconst (v := nI 1) (pc' := 77) rfl rfl rfl ?_
    first | refine wp_iaddN (pc' := 78) rfl (by with_reducible rfl) (by with_reducible rfl) rfl ?_ | refine wp_iadd (pc' := 78) rfl rfl ?_
    refine wp_callV3 (pc' := 81) rfl rfl rfl rfl rfl (by first | exact TK.k1 hT rfl | exact TK.kk hT rfl | exact TK.r hT rfl | assumption) rfl rfl ?_
    refine m_of hT hc (by omega) ?_
    rw [hJ9]
    refine Cont.v ?_
    refine wp_istore4 (pc' := 83) rfl (by first | rfl | assumption) rfl ?_
    refine wp_aload0 (pc' := 84) rfl rfl ?_
    refine wp_callV1 (pc' := 87) rfl rfl rfl rfl rfl (by first | exact TK.k1 hT rfl | exact TK.kk hT rfl | exact TK.r hT rfl | assumption) rfl rfl ?_
    refine m_bringsBack hT ?_
    rw [hJ9, hJ 322 (by omega), hN, upr_same, cpy_back (gon_hi hdw _)]
    rw [hN, hM] at hJ
    refine Cont.u ?_
    refine wp_iload4 (pc' := 89) rfl rfl ?_
    refine wp_iret rfl rfl rfl ?_
    first | exact Qv (kk _ (ask_mk (hJ.upr (b := 319) (by omega)) upr_same)) (by rw [if_pos (nI_lt_inv (by omega) (by omega) h68)]) rfl | exact Qv (kk _ (ask_mk (hJ.upr (b := 319) (by omega)) upr_same)) (by rw [if_neg (fun e => h68 (nI_lt e (by omega)))]) rfl
  · intro h68
    refine wp_iload3 (pc' := 72) rfl rfl ?_
    refine wp_goto rfl ?_
    refine wp_callV3 (pc' := 81) rfl rfl rfl rfl rfl (by first | exact TK.k1 hT rfl | exact TK.kk hT rfl | exact TK.r hT rfl | assumption) rfl rfl ?_
    refine m_of hT hc (by omega) ?_
    rw [hJ9]
    refine Cont.v ?_
    refine wp_istore4 (pc' := 83) rfl (by first | rfl | assumption) rfl ?_
    refine wp_aload0 (pc' := 84) rfl rfl ?_
    refine wp_callV1 (pc' := 87) rfl rfl rfl rfl rfl (by first | exact TK.k1 hT rfl | exact TK.kk hT rfl | exact TK.r hT rfl | assumption) rfl rfl ?_
    refine m_bringsBack hT ?_
    rw [hJ9, hJ 322 (by omega), hN, upr_same, cpy_back (gon_hi hdw _)]
    rw [hN, hM] at hJ
    refine Cont.u ?_
    refine wp_iload4 (pc' := 89) rfl rfl ?_
    refine wp_iret rfl rfl rfl ?_
    first | exact Qv (kk _ (ask_mk (hJ.upr (b := 319) (by omega)) upr_same)) (by rw [if_pos (nI_lt_inv (by omega) (by omega) h68)]) rfl | exact Qv (kk _ (ask_mk (hJ.upr (b := 319) (by omega)) upr_same)) (by rw [if_neg (fun e => h68 (nI_lt e (by omega)))]) rfl
theorem m_aheadE1 {d : Nat} {K : Nat → Nat × Nat} {I : Nat → Nat → Int32} {L : Nat → Nat → Int64} {R : Nat → Nat → Option Nat} {n s : Nat} {Q : Lo → Lm → Prop} {x y z : Int32} (hT : TK K R n) (hx : ¬ InR x 25) (kk : Q (.inl (some (.int (nI 0)))) (K, up2 I 318 0 (nI 1), L, R, n, s)) : Ok (d + 12) 359 [.ref 318, .int x, .int y, .int z] (K, I, L, R, n, s) Q := by
  obtain ⟨-, -, hn⟩ := id hT
  refine Ok.enter (F := F_359) (ls := [.ref 318, .int x, .int y, .int z, lDead]) rfl rfl ?_
  refine wp_aload0 (pc' := 1) rfl rfl ?_
  refine wp_iconst (v := nI 0) (pc' := 2) rfl rfl rfl ?_
  refine wp_putI (pc' := 5) rfl rfl (by first | exact TK.k1 hT rfl | exact TK.kk hT rfl | exact TK.r hT rfl | assumption) (by omega) rfl ?_
  refine wp_aload0 (pc' := 6) rfl rfl ?_
  refine wp_iload1 (pc' := 7) rfl rfl ?_
  refine wp_callS1 (pc' := 10) rfl rfl rfl rfl rfl rfl ?_
  refine m_noCell0 hx ?_
  refine Cont.v ?_
  refine wp_iconst (v := nI 1) (pc' := 11) rfl rfl rfl ?_
  refine wp_callV3 (pc' := 14) rfl rfl rfl rfl rfl (by first | exact TK.k1 hT rfl | exact TK.kk hT rfl | exact TK.r hT rfl | assumption) rfl rfl ?_
  refine m_tfY hT ?_
  refine Cont.v ?_
  refine wp_ifneT rfl (by decide) ?_
  refine wp_iconst (v := nI 0) (pc' := 52) rfl rfl rfl ?_
  refine wp_iret rfl rfl rfl ?_
  rw [up318]
  exact kk
theorem m_aheadE2 {d : Nat} {K : Nat → Nat × Nat} {I : Nat → Nat → Int32} {L : Nat → Nat → Int64} {R : Nat → Nat → Option Nat} {n s : Nat} {Q : Lo → Lm → Prop} {c : Nat} {y z : Int32} (hT : TK K R n) (hc : c < 25) (hx : ¬ InR y 61) (kk : Q (.inl (some (.int (nI 0)))) (K, up2 I 318 0 (nI 2), L, R, n, s)) : Ok (d + 12) 359 [.ref 318, .int (nI c), .int y, .int z] (K, I, L, R, n, s) Q := by
  obtain ⟨-, -, hn⟩ := id hT
  refine Ok.enter (F := F_359) (ls := [.ref 318, .int (nI c), .int y, .int z, lDead]) rfl rfl ?_
  refine wp_aload0 (pc' := 1) rfl rfl ?_
  refine wp_iconst (v := nI 0) (pc' := 2) rfl rfl rfl ?_
  refine wp_putI (pc' := 5) rfl rfl (by first | exact TK.k1 hT rfl | exact TK.kk hT rfl | exact TK.r hT rfl | assumption) (by omega) rfl ?_
  refine wp_aload0 (pc' := 6) rfl rfl ?_
  refine wp_iload1 (pc' := 7) rfl rfl ?_
  refine wp_callS1 (pc' := 10) rfl rfl rfl rfl rfl rfl ?_
  refine m_noCell1 hc ?_
  refine Cont.v ?_
  refine wp_iconst (v := nI 1) (pc' := 11) rfl rfl rfl ?_
  refine wp_callV3 (pc' := 14) rfl rfl rfl rfl rfl (by first | exact TK.k1 hT rfl | exact TK.kk hT rfl | exact TK.r hT rfl | assumption) rfl rfl ?_
  refine m_tfN hT ?_
  refine Cont.v ?_
  refine wp_ifneF (pc' := 17) rfl rfl rfl ?_
  refine wp_aload0 (pc' := 18) rfl rfl ?_
  refine wp_iload2 (pc' := 19) rfl rfl ?_
  refine wp_callS1 (pc' := 22) rfl rfl rfl rfl rfl rfl ?_
  refine m_noDays0 hx ?_
  refine Cont.v ?_
  refine wp_iconst (v := nI 2) (pc' := 23) rfl rfl rfl ?_
  refine wp_callV3 (pc' := 26) rfl rfl rfl rfl rfl (by first | exact TK.k1 hT rfl | exact TK.kk hT rfl | exact TK.r hT rfl | assumption) rfl rfl ?_
  refine m_tfY hT ?_
  refine Cont.v ?_
  refine wp_ifneT rfl (by decide) ?_
  refine wp_iconst (v := nI 0) (pc' := 52) rfl rfl rfl ?_
  refine wp_iret rfl rfl rfl ?_
  rw [up318]
  exact kk
theorem m_aheadE3 {d : Nat} {K : Nat → Nat × Nat} {I : Nat → Nat → Int32} {L : Nat → Nat → Int64} {R : Nat → Nat → Option Nat} {n s : Nat} {Q : Lo → Lm → Prop} {c k : Nat} {z : Int32} (hT : TK K R n) (hc : c < 25) (hk60 : k ≤ 60) (hx : ¬ InR z 4) (kk : Q (.inl (some (.int (nI 0)))) (K, up2 I 318 0 (nI 3), L, R, n, s)) : Ok (d + 12) 359 [.ref 318, .int (nI c), .int (nI k), .int z] (K, I, L, R, n, s) Q := by
  obtain ⟨-, -, hn⟩ := id hT
  refine Ok.enter (F := F_359) (ls := [.ref 318, .int (nI c), .int (nI k), .int z, lDead]) rfl rfl ?_
  refine wp_aload0 (pc' := 1) rfl rfl ?_
  refine wp_iconst (v := nI 0) (pc' := 2) rfl rfl rfl ?_
  refine wp_putI (pc' := 5) rfl rfl (by first | exact TK.k1 hT rfl | exact TK.kk hT rfl | exact TK.r hT rfl | assumption) (by omega) rfl ?_
  refine wp_aload0 (pc' := 6) rfl rfl ?_
  refine wp_iload1 (pc' := 7) rfl rfl ?_
  refine wp_callS1 (pc' := 10) rfl rfl rfl rfl rfl rfl ?_
  refine m_noCell1 hc ?_
  refine Cont.v ?_
  refine wp_iconst (v := nI 1) (pc' := 11) rfl rfl rfl ?_
  refine wp_callV3 (pc' := 14) rfl rfl rfl rfl rfl (by first | exact TK.k1 hT rfl | exact TK.kk hT rfl | exact TK.r hT rfl | assumption) rfl rfl ?_
  refine m_tfN hT ?_
  refine Cont.v ?_
  refine wp_ifneF (pc' := 17) rfl rfl rfl ?_
  refine wp_aload0 (pc' := 18) rfl rfl ?_
  refine wp_iload2 (pc' := 19) rfl rfl ?_
  refine wp_callS1 (pc' := 22) rfl rfl rfl rfl rfl rfl ?_
  refine m_noDays1 hk60 ?_
  refine Cont.v ?_
  refine wp_iconst (v := nI 2) (pc' := 23) rfl rfl rfl ?_
  refine wp_callV3 (pc' := 26) rfl rfl rfl rfl rfl (by first | exact TK.k1 hT rfl | exact TK.kk hT rfl | exact TK.r hT rfl | assumption) rfl rfl ?_
  refine m_tfN hT ?_
  refine Cont.v ?_
  refine wp_ifneF (pc' := 29) rfl rfl rfl ?_
  refine wp_aload0 (pc' := 30) rfl rfl ?_
  refine wp_iload3 (pc' := 31) rfl rfl ?_
  refine wp_iconst (v := nI 0) (pc' := 32) rfl rfl rfl ?_
  refine wp_iconst (v := nI 3) (pc' := 33) rfl rfl rfl ?_
  refine wp_callS3 (pc' := 36) rfl rfl rfl rfl rfl rfl ?_
  refine m_in0 (fun q => hx ((InR_iff (k := 3) (by decide)).mp q)) ?_
  refine Cont.v ?_
  refine wp_ifneF (pc' := 39) rfl rfl rfl ?_
  refine wp_iconst (v := nI 1) (pc' := 40) rfl rfl rfl ?_
  refine wp_goto rfl ?_
  refine wp_iconst (v := nI 3) (pc' := 45) rfl rfl rfl ?_
  refine wp_callV3 (pc' := 48) rfl rfl rfl rfl rfl (by first | exact TK.k1 hT rfl | exact TK.kk hT rfl | exact TK.r hT rfl | assumption) rfl rfl ?_
  refine m_tfY hT ?_
  refine Cont.v ?_
  refine wp_ifeqF (pc' := 51) rfl (by decide) rfl ?_
  refine wp_iconst (v := nI 0) (pc' := 52) rfl rfl rfl ?_
  refine wp_iret rfl rfl rfl ?_
  rw [up318]
  exact kk
theorem m_trial1 {d : Nat} {K : Nat → Nat × Nat} {I : Nat → Nat → Int32} {L : Nat → Nat → Int64} {R : Nat → Nat → Option Nat} {n s : Nat} {Q : Lo → Lm → Prop} {k : Nat} (hT : TK K R n) {o : RwT} {H : Nat} (hdw : DWk (I 319) o H) (hk60 : k ≤ 60) (kk : ∀ J, AskJ I J → Q (.inl (some (.int (popC (openS (Sv (gonW false (I 319) o H k).2)))))) (K, J, L, R, n, s)) : Ok (d + 12) 361 [.ref 318, .int (nI k), .int (nI 1)] (K, I, L, R, n, s) Q := by
  obtain ⟨-, -, hn⟩ := id hT
  refine Ok.enter (F := F_361) (ls := [.ref 318, .int (nI k), .int (nI 1), lDead]) rfl rfl ?_
  refine wp_aload0 (pc' := 1) rfl rfl ?_
  refine wp_iconst (v := nI 0) (pc' := 2) rfl rfl rfl ?_
  refine wp_putI (pc' := 5) rfl rfl (by first | exact TK.k1 hT rfl | exact TK.kk hT rfl | exact TK.r hT rfl | assumption) (by omega) rfl ?_
  obtain ⟨M, hM⟩ : ∃ M, M = up2 I 318 0 (nI 0) := ⟨_, rfl⟩
  have hM9 : M 319 = I 319 := by rw [hM]; exact up2_row (by decide)
  have hM7 : M 318 7 = I 318 7 := by rw [hM, up2_same, if_neg (by decide)]
  rw [← hM]
  refine wp_aload0 (pc' := 6) rfl rfl ?_
  refine wp_iload1 (pc' := 7) rfl rfl ?_
  refine wp_callS1 (pc' := 10) rfl rfl rfl rfl rfl rfl ?_
  refine m_noDays1 hk60 ?_
  refine Cont.v ?_
  refine wp_iconst (v := nI 1) (pc' := 11) rfl rfl rfl ?_
  refine wp_callV3 (pc' := 14) rfl rfl rfl rfl rfl (by first | exact TK.k1 hT rfl | exact TK.kk hT rfl | exact TK.r hT rfl | assumption) rfl rfl ?_
  refine m_tfN hT ?_
  refine Cont.v ?_
  refine wp_ifeqT rfl rfl ?_
  refine wp_aload0 (pc' := 20) rfl rfl ?_
  refine wp_callV1 (pc' := 23) rfl rfl rfl rfl rfl (by first | exact TK.k1 hT rfl | exact TK.kk hT rfl | exact TK.r hT rfl | assumption) rfl rfl ?_
  refine m_keepsAll hT ?_
  rw [hM9]
  obtain ⟨N, hN⟩ : ∃ N, N = upr M 322 (cpy 483 (I 319) (M 322)) := ⟨_, rfl⟩
  have hN9 : N 319 = I 319 := by rw [hN, upr_ne (by decide)]; exact hM9
  rw [← hN]
  refine Cont.u ?_
  refine wp_aload0 (pc' := 24) rfl rfl ?_
  refine wp_iload1 (pc' := 25) rfl rfl ?_
  refine wp_iconst (v := nI 0) (pc' := 26) rfl rfl rfl ?_
  refine wp_callV3 (pc' := 29) rfl rfl rfl rfl rfl (by first | exact TK.k1 hT rfl | exact TK.kk hT rfl | exact TK.r hT rfl | assumption) rfl rfl ?_
  refine m_goesOn0 (o := o) (H := H) hT (by rw [hN9]; exact hdw) hk60 (fun J hJ hJ9 => ?_)
  rw [hN9] at hJ9 ⊢
  refine Cont.v ?_
  refine wp_pop (pc' := 30) rfl rfl rfl ?_
  refine wp_iload2 (pc' := 31) rfl rfl ?_
  refine wp_ifeqF (pc' := 34) rfl (by decide) rfl ?_
  refine wp_aload0 (pc' := 35) rfl rfl ?_
  refine wp_callV1 (pc' := 38) rfl rfl rfl rfl rfl (by first | exact TK.k1 hT rfl | exact TK.kk hT rfl | exact TK.r hT rfl | assumption) rfl rfl ?_
  refine m_allOpen hT ?_
  rw [hJ9]
  refine Cont.v ?_
  refine wp_callS1 (pc' := 41) rfl rfl rfl rfl rfl rfl ?_
  refine c_bitCount ?_
  refine Cont.v ?_
  refine wp_goto rfl ?_
  refine wp_istore3 (pc' := 50) rfl (by first | rfl | assumption) rfl ?_
  refine wp_aload0 (pc' := 51) rfl rfl ?_
  refine wp_callV1 (pc' := 54) rfl rfl rfl rfl rfl (by first | exact TK.k1 hT rfl | exact TK.kk hT rfl | exact TK.r hT rfl | assumption) rfl rfl ?_
  refine m_bringsBack hT ?_
  rw [hJ9, hJ 322 (by omega), hN, upr_same, cpy_back (gon_hi hdw _)]
  rw [hN, hM] at hJ
  refine Cont.u ?_
  refine wp_iload3 (pc' := 55) rfl rfl ?_
  refine wp_iret rfl rfl rfl ?_
  exact kk _ (ask_mk (hJ.upr (b := 319) (by omega)) upr_same)
theorem m_trial0 {d : Nat} {K : Nat → Nat × Nat} {I : Nat → Nat → Int32} {L : Nat → Nat → Int64} {R : Nat → Nat → Option Nat} {n s : Nat} {Q : Lo → Lm → Prop} {k : Nat} (hT : TK K R n) {o : RwT} {H : Nat} (hdw : DWk (I 319) o H) (hk60 : k ≤ 60) (kk : ∀ J, AskJ I J → Q (.inl (some (.int (sumN (fun c => (gonW false (I 319) o H k).2 (9 + 6 * c + 3)) 25)))) (K, J, L, R, n, s)) : Ok (d + 12) 361 [.ref 318, .int (nI k), .int (nI 0)] (K, I, L, R, n, s) Q := by
  obtain ⟨-, -, hn⟩ := id hT
  refine Ok.enter (F := F_361) (ls := [.ref 318, .int (nI k), .int (nI 0), lDead]) rfl rfl ?_
  refine wp_aload0 (pc' := 1) rfl rfl ?_
  refine wp_iconst (v := nI 0) (pc' := 2) rfl rfl rfl ?_
  refine wp_putI (pc' := 5) rfl rfl (by first | exact TK.k1 hT rfl | exact TK.kk hT rfl | exact TK.r hT rfl | assumption) (by omega) rfl ?_
  obtain ⟨M, hM⟩ : ∃ M, M = up2 I 318 0 (nI 0) := ⟨_, rfl⟩
  have hM9 : M 319 = I 319 := by rw [hM]; exact up2_row (by decide)
  have hM7 : M 318 7 = I 318 7 := by rw [hM, up2_same, if_neg (by decide)]
  rw [← hM]
  refine wp_aload0 (pc' := 6) rfl rfl ?_
  refine wp_iload1 (pc' := 7) rfl rfl ?_
  refine wp_callS1 (pc' := 10) rfl rfl rfl rfl rfl rfl ?_
  refine m_noDays1 hk60 ?_
  refine Cont.v ?_
  refine wp_iconst (v := nI 1) (pc' := 11) rfl rfl rfl ?_
  refine wp_callV3 (pc' := 14) rfl rfl rfl rfl rfl (by first | exact TK.k1 hT rfl | exact TK.kk hT rfl | exact TK.r hT rfl | assumption) rfl rfl ?_
  refine m_tfN hT ?_
  refine Cont.v ?_
  refine wp_ifeqT rfl rfl ?_
  refine wp_aload0 (pc' := 20) rfl rfl ?_
  refine wp_callV1 (pc' := 23) rfl rfl rfl rfl rfl (by first | exact TK.k1 hT rfl | exact TK.kk hT rfl | exact TK.r hT rfl | assumption) rfl rfl ?_
  refine m_keepsAll hT ?_
  rw [hM9]
  obtain ⟨N, hN⟩ : ∃ N, N = upr M 322 (cpy 483 (I 319) (M 322)) := ⟨_, rfl⟩
  have hN9 : N 319 = I 319 := by rw [hN, upr_ne (by decide)]; exact hM9
  rw [← hN]
  refine Cont.u ?_
  refine wp_aload0 (pc' := 24) rfl rfl ?_
  refine wp_iload1 (pc' := 25) rfl rfl ?_
  refine wp_iconst (v := nI 0) (pc' := 26) rfl rfl rfl ?_
  refine wp_callV3 (pc' := 29) rfl rfl rfl rfl rfl (by first | exact TK.k1 hT rfl | exact TK.kk hT rfl | exact TK.r hT rfl | assumption) rfl rfl ?_
  refine m_goesOn0 (o := o) (H := H) hT (by rw [hN9]; exact hdw) hk60 (fun J hJ hJ9 => ?_)
  rw [hN9] at hJ9 ⊢
  refine Cont.v ?_
  refine wp_pop (pc' := 30) rfl rfl rfl ?_
  refine wp_iload2 (pc' := 31) rfl rfl ?_
  refine wp_ifeqT rfl rfl ?_
  refine wp_aload0 (pc' := 45) rfl rfl ?_
  refine wp_iconst (v := nI 3) (pc' := 46) rfl rfl rfl ?_
  refine wp_callV2 (pc' := 49) rfl rfl rfl rfl rfl (by first | exact TK.k1 hT rfl | exact TK.kk hT rfl | exact TK.r hT rfl | assumption) rfl rfl ?_
  refine m_sumOfAll hT (by decide) ?_
  rw [hJ9]
  refine Cont.v ?_
  refine wp_istore3 (pc' := 50) rfl (by first | rfl | assumption) rfl ?_
  refine wp_aload0 (pc' := 51) rfl rfl ?_
  refine wp_callV1 (pc' := 54) rfl rfl rfl rfl rfl (by first | exact TK.k1 hT rfl | exact TK.kk hT rfl | exact TK.r hT rfl | assumption) rfl rfl ?_
  refine m_bringsBack hT ?_
  rw [hJ9, hJ 322 (by omega), hN, upr_same, cpy_back (gon_hi hdw _)]
  rw [hN, hM] at hJ
  refine Cont.u ?_
  refine wp_iload3 (pc' := 55) rfl rfl ?_
  refine wp_iret rfl rfl rfl ?_
  exact kk _ (ask_mk (hJ.upr (b := 319) (by omega)) upr_same)
theorem m_trialE {d : Nat} {K : Nat → Nat × Nat} {I : Nat → Nat → Int32} {L : Nat → Nat → Int64} {R : Nat → Nat → Option Nat} {n s : Nat} {Q : Lo → Lm → Prop} {x y : Int32} (hT : TK K R n) (hx : ¬ InR x 61) (kk : Q (.inl (some (.int (nI 0)))) (K, up2 I 318 0 (nI 1), L, R, n, s)) : Ok (d + 12) 361 [.ref 318, .int x, .int y] (K, I, L, R, n, s) Q := by
  obtain ⟨-, -, hn⟩ := id hT
  refine Ok.enter (F := F_361) (ls := [.ref 318, .int x, .int y, lDead]) rfl rfl ?_
  refine wp_aload0 (pc' := 1) rfl rfl ?_
  refine wp_iconst (v := nI 0) (pc' := 2) rfl rfl rfl ?_
  refine wp_putI (pc' := 5) rfl rfl (by first | exact TK.k1 hT rfl | exact TK.kk hT rfl | exact TK.r hT rfl | assumption) (by omega) rfl ?_
  refine wp_aload0 (pc' := 6) rfl rfl ?_
  refine wp_iload1 (pc' := 7) rfl rfl ?_
  refine wp_callS1 (pc' := 10) rfl rfl rfl rfl rfl rfl ?_
  refine m_noDays0 hx ?_
  refine Cont.v ?_
  refine wp_iconst (v := nI 1) (pc' := 11) rfl rfl rfl ?_
  refine wp_callV3 (pc' := 14) rfl rfl rfl rfl rfl (by first | exact TK.k1 hT rfl | exact TK.kk hT rfl | exact TK.r hT rfl | assumption) rfl rfl ?_
  refine m_tfY hT ?_
  refine Cont.v ?_
  refine wp_ifeqF (pc' := 17) rfl (by decide) rfl ?_
  refine wp_iconst (v := nI 0) (pc' := 18) rfl rfl rfl ?_
  refine wp_iret rfl rfl rfl ?_
  rw [up318]
  exact kk
