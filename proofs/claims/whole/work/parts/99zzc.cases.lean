/-! THE LAW: one row of the script -/
def NxT (N : Nat) (xs : Nat → Int32) (D : Nat) (Q : Lo → Lm → Prop) (i n s : Nat) : Prop := ∀ K I L R n2 s2 v5 v6, isL v5 = false → isL v6 = false → Sim N xs K I L R n2 → n2 ≤ n + 6 → s2 ≤ s + 876 → WP D F_369 2657 [.ref lmScr, .ref 0, .ref 318, .ref 337, .int (nI i), v5, v6] [] (K, I, L, R, n2, s2) Q
theorem lg_eq {x y : Int64} (h : x = y) : lg_cmp x y = nI 0 := by
  subst h; unfold lg_cmp
  rw [if_neg (show ¬ x > x from Int64.lt_irrefl), if_pos rfl]; rfl
theorem o_cell {N d : Nat} {xs : Nat → Int32} {K : Nat → Nat × Nat} {I : Mem} {L : Nat → Nat → Int64} {R : Nat → Nat → Option Nat} {n s : Nat} {x y : Int32} (h : Sim N xs K I L R n) (hn : n + 6 ≤ lmCells) (hs : s + 876 ≤ lmSlots) : Ok (d + 40) 106 [.ref 0, .int x, .int y, .ref 337] (K, I, L, R, n, s) (AftC N xs (d + 40) 255 [.ref 318, .int x, .int y] n s false) := by
  by_cases q : InR y 17
  · obtain ⟨k, hk, rfl⟩ := q
    have hk2 : k = 0 ∨ k = 1 ∨ k = 2 ∨ k = 3 ∨ k = 4 ∨ k = 5 ∨ k = 6 ∨ k = 7 ∨ k = 8 ∨ k = 9 ∨ k = 10 ∨ k = 11 ∨ k = 12 ∨ k = 13 ∨ k = 14 ∨ k = 15 ∨ k = 16 := by omega
    rcases hk2 with rfl | rfl | rfl | rfl | rfl | rfl | rfl | rfl | rfl | rfl | rfl | rfl | rfl | rfl | rfl | rfl | rfl
    · exact o_cell0 h hn hs
    · exact o_cell1 h hn hs
    · exact o_cell2 h hn hs
    · exact o_cell3 h hn hs
    · exact o_cell4 h hn hs
    · exact o_cell5 h hn hs
    · exact o_cell6 h hn hs
    · exact o_cell7 h hn hs
    · exact o_cell8 h hn hs
    · exact o_cell9 h hn hs
    · exact o_cell10 h hn hs
    · exact o_cell11 h hn hs
    · exact o_cell12 h hn hs
    · exact o_cell13 h hn hs
    · exact o_cell14 h hn hs
    · exact o_cell15 h hn hs
    · exact o_cell16 h hn hs
  · exact o_cellX q h hn hs
def PlT : Prop := ∀ {N d : Nat} {xs : Nat → Int32} {K : Nat → Nat × Nat} {I : Mem} {L : Nat → Nat → Int64} {R : Nat → Nat → Option Nat} {n s : Nat} {x : Int32}, Sim N xs K I L R n → n + 6 ≤ lmCells → s + 876 ≤ lmSlots → Ok (d + 40) 176 [.ref 0, .int x, .ref 337] (K, I, L, R, n, s) (AftC N xs (d + 40) 330 [.ref 318, .int x] n s false)
def PaT : Prop := ∀ {N d : Nat} {xs : Nat → Int32} {K : Nat → Nat × Nat} {I : Mem} {L : Nat → Nat → Int64} {R : Nat → Nat → Option Nat} {n s : Nat} {x : Int32}, Sim N xs K I L R n → n + 6 ≤ lmCells → s + 876 ≤ lmSlots → Ok (d + 40) 186 [.ref 0, .int x, .ref 337] (K, I, L, R, n, s) (AftC N xs (d + 40) 344 [.ref 318, .int x] n s false)
theorem k_0 {N d : Nat} {xs : Nat → Int32} {K : Nat → Nat × Nat} {I : Mem} {L : Nat → Nat → Int64} {R : Nat → Nat → Option Nat} {n s i : Nat} {v5 v6 : Value} {Q : Lo → Lm → Prop} (h : Sim N xs K I L R n) (hn : n + 6 ≤ lmCells) (hs : s + 876 ≤ lmSlots) (hi : i + 6 ≤ N) (hN : N ≤ 3072) (h5 : isL v5 = false) (h6 : isL v6 = false) (kk : NxT N xs (d + 40) Q i n s) : WP (d + 40) F_369 268 [.ref lmScr, .ref 0, .ref 318, .ref 337, .int (nI i), v5, v6] [] (K, I, L, R, n, s) Q := by
  have hsc := h.1.2.2.2.1
  have hxs := h.1.2.2.2.2.1.1
  have hT := h.1.1
  refine wp_aload1 (pc' := 269) rfl rfl ?_
  refine wp_aload0 (pc' := 270) rfl rfl ?_
  refine wp_iload4 (pc' := 272) rfl rfl ?_
  refine wp_iconst (v := nI 1) (pc' := 273) rfl rfl rfl ?_
  refine wp_iaddN (pc' := 274) rfl rfl rfl rfl ?_
  refine wp_iald (i + 1) (pc' := 275) rfl hsc rfl (by omega) (by omega) rfl ?_
  rw [show I lmScr (i + 1) = xs (i + 1) from hxs (i + 1)]
  refine wp_aload0 (pc' := 276) rfl rfl ?_
  refine wp_iload4 (pc' := 278) rfl rfl ?_
  refine wp_iconst (v := nI 2) (pc' := 279) rfl rfl rfl ?_
  refine wp_iaddN (pc' := 280) rfl rfl rfl rfl ?_
  refine wp_iald (i + 2) (pc' := 281) rfl hsc rfl (by omega) (by omega) rfl ?_
  rw [show I lmScr (i + 2) = xs (i + 2) from hxs (i + 2)]
  refine wp_aload0 (pc' := 282) rfl rfl ?_
  refine wp_iload4 (pc' := 284) rfl rfl ?_
  refine wp_iconst (v := nI 3) (pc' := 285) rfl rfl rfl ?_
  refine wp_iaddN (pc' := 286) rfl rfl rfl rfl ?_
  refine wp_iald (i + 3) (pc' := 287) rfl hsc rfl (by omega) (by omega) rfl ?_
  rw [show I lmScr (i + 3) = xs (i + 3) from hxs (i + 3)]
  refine wp_aload0 (pc' := 288) rfl rfl ?_
  refine wp_iload4 (pc' := 290) rfl rfl ?_
  refine wp_iconst (v := nI 4) (pc' := 291) rfl rfl rfl ?_
  refine wp_iaddN (pc' := 292) rfl rfl rfl rfl ?_
  refine wp_iald (i + 4) (pc' := 293) rfl hsc rfl (by omega) (by omega) rfl ?_
  rw [show I lmScr (i + 4) = xs (i + 4) from hxs (i + 4)]
  refine wp_aload0 (pc' := 294) rfl rfl ?_
  refine wp_iload4 (pc' := 296) rfl rfl ?_
  refine wp_iconst (v := nI 5) (pc' := 297) rfl rfl rfl ?_
  refine wp_iaddN (pc' := 298) rfl rfl rfl rfl ?_
  refine wp_iald (i + 5) (pc' := 299) rfl hsc rfl (by omega) (by omega) rfl ?_
  rw [show I lmScr (i + 5) = xs (i + 5) from hxs (i + 5)]
  refine wp_callV6 (pc' := 302) rfl rfl rfl rfl rfl (TK.k1 hT rfl) rfl rfl ?_
  refine Ok.mono (Nat.le_refl _) (o_feed h) (fun o t hA => ?_)
  obtain ⟨v, rfl, hOk, hm1, hm2, hm3⟩ := hA
  obtain ⟨K1, I1, L1, R1, n1, s1⟩ := t
  refine Cont.v ?_
  refine wp_aload2 (pc' := 303) rfl rfl ?_
  refine wp_aload0 (pc' := 304) rfl rfl ?_
  refine wp_iload4 (pc' := 306) rfl rfl ?_
  refine wp_iconst (v := nI 1) (pc' := 307) rfl rfl rfl ?_
  refine wp_iaddN (pc' := 308) rfl rfl rfl rfl ?_
  refine wp_iald (i + 1) (pc' := 309) rfl hm1 rfl (by omega) (by omega) rfl ?_
  rw [show I1 lmScr (i + 1) = xs (i + 1) from hm2 (i + 1)]
  refine wp_aload0 (pc' := 310) rfl rfl ?_
  refine wp_iload4 (pc' := 312) rfl rfl ?_
  refine wp_iconst (v := nI 2) (pc' := 313) rfl rfl rfl ?_
  refine wp_iaddN (pc' := 314) rfl rfl rfl rfl ?_
  refine wp_iald (i + 2) (pc' := 315) rfl hm1 rfl (by omega) (by omega) rfl ?_
  rw [show I1 lmScr (i + 2) = xs (i + 2) from hm2 (i + 2)]
  refine wp_aload0 (pc' := 316) rfl rfl ?_
  refine wp_iload4 (pc' := 318) rfl rfl ?_
  refine wp_iconst (v := nI 3) (pc' := 319) rfl rfl rfl ?_
  refine wp_iaddN (pc' := 320) rfl rfl rfl rfl ?_
  refine wp_iald (i + 3) (pc' := 321) rfl hm1 rfl (by omega) (by omega) rfl ?_
  rw [show I1 lmScr (i + 3) = xs (i + 3) from hm2 (i + 3)]
  refine wp_aload0 (pc' := 322) rfl rfl ?_
  refine wp_iload4 (pc' := 324) rfl rfl ?_
  refine wp_iconst (v := nI 4) (pc' := 325) rfl rfl rfl ?_
  refine wp_iaddN (pc' := 326) rfl rfl rfl rfl ?_
  refine wp_iald (i + 4) (pc' := 327) rfl hm1 rfl (by omega) (by omega) rfl ?_
  rw [show I1 lmScr (i + 4) = xs (i + 4) from hm2 (i + 4)]
  refine wp_aload0 (pc' := 328) rfl rfl ?_
  refine wp_iload4 (pc' := 330) rfl rfl ?_
  refine wp_iconst (v := nI 5) (pc' := 331) rfl rfl rfl ?_
  refine wp_iaddN (pc' := 332) rfl rfl rfl rfl ?_
  refine wp_iald (i + 5) (pc' := 333) rfl hm1 rfl (by omega) (by omega) rfl ?_
  rw [show I1 lmScr (i + 5) = xs (i + 5) from hm2 (i + 5)]
  refine wp_callV6 (pc' := 336) rfl rfl rfl rfl rfl hm3 rfl rfl ?_
  refine Ok.mono (Nat.le_refl _) hOk (fun o t hA => ?_)
  obtain ⟨rfl, hS2, hn2, hs2⟩ := hA
  obtain ⟨K2, I2, L2, R2, n2, s2⟩ := t
  refine Cont.v ?_
  refine wp_icmpeqT rfl rfl ?_
  exact kk K2 I2 L2 R2 n2 s2 _ _ h5 h6 hS2 hn2 hs2
theorem k_1 {N d : Nat} {xs : Nat → Int32} {K : Nat → Nat × Nat} {I : Mem} {L : Nat → Nat → Int64} {R : Nat → Nat → Option Nat} {n s i : Nat} {v5 v6 : Value} {Q : Lo → Lm → Prop} (h : Sim N xs K I L R n) (hn : n + 6 ≤ lmCells) (hs : s + 876 ≤ lmSlots) (hi : i + 6 ≤ N) (hN : N ≤ 3072) (h5 : isL v5 = false) (h6 : isL v6 = false) (kk : NxT N xs (d + 40) Q i n s) : WP (d + 40) F_369 341 [.ref lmScr, .ref 0, .ref 318, .ref 337, .int (nI i), v5, v6] [] (K, I, L, R, n, s) Q := by
  have hsc := h.1.2.2.2.1
  have hxs := h.1.2.2.2.2.1.1
  have hT := h.1.1
  refine wp_aload1 (pc' := 342) rfl rfl ?_
  refine wp_aload0 (pc' := 343) rfl rfl ?_
  refine wp_iload4 (pc' := 345) rfl rfl ?_
  refine wp_iconst (v := nI 1) (pc' := 346) rfl rfl rfl ?_
  refine wp_iaddN (pc' := 347) rfl rfl rfl rfl ?_
  refine wp_iald (i + 1) (pc' := 348) rfl hsc rfl (by omega) (by omega) rfl ?_
  rw [show I lmScr (i + 1) = xs (i + 1) from hxs (i + 1)]
  refine wp_callV2 (pc' := 351) rfl rfl rfl rfl rfl (TK.k1 hT rfl) rfl rfl ?_
  refine Ok.mono (Nat.le_refl _) (o_end h) (fun o t hA => ?_)
  obtain ⟨v, rfl, hOk, hm1, hm2, hm3⟩ := hA
  obtain ⟨K1, I1, L1, R1, n1, s1⟩ := t
  refine Cont.v ?_
  refine wp_aload2 (pc' := 352) rfl rfl ?_
  refine wp_aload0 (pc' := 353) rfl rfl ?_
  refine wp_iload4 (pc' := 355) rfl rfl ?_
  refine wp_iconst (v := nI 1) (pc' := 356) rfl rfl rfl ?_
  refine wp_iaddN (pc' := 357) rfl rfl rfl rfl ?_
  refine wp_iald (i + 1) (pc' := 358) rfl hm1 rfl (by omega) (by omega) rfl ?_
  rw [show I1 lmScr (i + 1) = xs (i + 1) from hm2 (i + 1)]
  refine wp_callV2 (pc' := 361) rfl rfl rfl rfl rfl hm3 rfl rfl ?_
  refine Ok.mono (Nat.le_refl _) hOk (fun o t hA => ?_)
  obtain ⟨rfl, hS2, hn2, hs2⟩ := hA
  obtain ⟨K2, I2, L2, R2, n2, s2⟩ := t
  refine Cont.v ?_
  refine wp_icmpeqT rfl rfl ?_
  exact kk K2 I2 L2 R2 n2 s2 _ _ h5 h6 hS2 hn2 hs2
theorem k_2 {N d : Nat} {xs : Nat → Int32} {K : Nat → Nat × Nat} {I : Mem} {L : Nat → Nat → Int64} {R : Nat → Nat → Option Nat} {n s i : Nat} {v5 v6 : Value} {Q : Lo → Lm → Prop} (h : Sim N xs K I L R n) (hn : n + 6 ≤ lmCells) (hs : s + 876 ≤ lmSlots) (hi : i + 6 ≤ N) (hN : N ≤ 3072) (h5 : isL v5 = false) (h6 : isL v6 = false) (kk : NxT N xs (d + 40) Q i n s) : WP (d + 40) F_369 366 [.ref lmScr, .ref 0, .ref 318, .ref 337, .int (nI i), v5, v6] [] (K, I, L, R, n, s) Q := by
  have hsc := h.1.2.2.2.1
  have hxs := h.1.2.2.2.2.1.1
  have hT := h.1.1
  refine wp_aload1 (pc' := 367) rfl rfl ?_
  refine wp_aload3 (pc' := 368) rfl rfl ?_
  refine wp_callS2 (pc' := 371) rfl rfl rfl rfl rfl rfl ?_
  refine Ok.mono (Nat.le_refl _) (o_bog h hn hs) (fun o t hA => ?_)
  obtain ⟨k, hk4, rfl, hOk, hm1, hm2, hm3⟩ := hA
  obtain ⟨K1, I1, L1, R1, n1, s1⟩ := t
  refine Cont.v ?_
  refine wp_istore5 (pc' := 373) rfl rfl rfl ?_
  refine wp_aload2 (pc' := 374) rfl rfl ?_
  refine wp_callV1 (pc' := 377) rfl rfl rfl rfl rfl hm3 rfl rfl ?_
  refine Ok.mono (Nat.le_refl _) hOk (fun o t hA => ?_)
  obtain ⟨b, rfl, hb0, hbv, hS2, hn2, hs2⟩ := hA
  obtain ⟨K2, I2, L2, R2, n2, s2⟩ := t
  have hT2 : TK K2 R2 n2 := hS2.1.1
  refine Cont.v ?_
  refine wp_istore6 (pc' := 379) rfl rfl rfl ?_
  refine wp_aload2 (pc' := 380) rfl rfl ?_
  refine wp_callV1 (pc' := 383) rfl rfl rfl rfl rfl (TK.k1 hT2 rfl) rfl rfl ?_
  refine m_thrown (d := d + 39) hT2 ?_
  rw [show I2 318 0 = nI k from hb0]
  refine Cont.v ?_
  refine wp_iload5 (pc' := 385) rfl rfl ?_
  refine wp_icmpeqT rfl rfl ?_
  refine wp_iload5 (pc' := 392) rfl rfl ?_
  by_cases hk : k = 0
  · subst hk
    refine wp_ifneF (pc' := 395) rfl rfl rfl ?_
    refine wp_aload3 (pc' := 396) rfl rfl ?_
    refine wp_iconst (v := nI 0) (pc' := 397) rfl rfl rfl ?_
    refine wp_lald 0 (pc' := 398) rfl (TK.kk hT2 rfl) rfl (by decide) (by decide) rfl ?_
    refine wp_iload6 (pc' := 400) rfl rfl ?_
    refine wp_i2l (pc' := 401) rfl rfl ?_
    refine wp_lcmp (pc' := 402) rfl rfl ?_
    refine wp_ifeqT rfl (lg_eq (hbv rfl)) ?_
    refine wp_goto rfl ?_
    exact kk K2 I2 L2 R2 n2 s2 _ _ rfl rfl hS2 hn2 hs2
  · refine wp_ifneT rfl (fun e => hk (eq_nI e (by omega) (by decide))) ?_
    refine wp_goto rfl ?_
    exact kk K2 I2 L2 R2 n2 s2 _ _ rfl rfl hS2 hn2 hs2
theorem k_3 {N d : Nat} {xs : Nat → Int32} {K : Nat → Nat × Nat} {I : Mem} {L : Nat → Nat → Int64} {R : Nat → Nat → Option Nat} {n s i : Nat} {v5 v6 : Value} {Q : Lo → Lm → Prop} (h : Sim N xs K I L R n) (hn : n + 6 ≤ lmCells) (hs : s + 876 ≤ lmSlots) (hi : i + 6 ≤ N) (hN : N ≤ 3072) (h5 : isL v5 = false) (h6 : isL v6 = false) (kk : NxT N xs (d + 40) Q i n s) : WP (d + 40) F_369 410 [.ref lmScr, .ref 0, .ref 318, .ref 337, .int (nI i), v5, v6] [] (K, I, L, R, n, s) Q := by
  have hsc := h.1.2.2.2.1
  have hxs := h.1.2.2.2.2.1.1
  have hT := h.1.1
  refine wp_aload1 (pc' := 411) rfl rfl ?_
  refine wp_aload3 (pc' := 412) rfl rfl ?_
  refine wp_callS2 (pc' := 415) rfl rfl rfl rfl rfl rfl ?_
  refine Ok.mono (Nat.le_refl _) (o_law h hn hs) (fun o t hA => ?_)
  obtain ⟨k, hk4, rfl, hOk, hm1, hm2, hm3⟩ := hA
  obtain ⟨K1, I1, L1, R1, n1, s1⟩ := t
  refine Cont.v ?_
  refine wp_istore5 (pc' := 417) rfl rfl rfl ?_
  refine wp_aload2 (pc' := 418) rfl rfl ?_
  refine wp_callV1 (pc' := 421) rfl rfl rfl rfl rfl hm3 rfl rfl ?_
  refine Ok.mono (Nat.le_refl _) hOk (fun o t hA => ?_)
  obtain ⟨b, rfl, hb0, hbv, hS2, hn2, hs2⟩ := hA
  obtain ⟨K2, I2, L2, R2, n2, s2⟩ := t
  have hT2 : TK K2 R2 n2 := hS2.1.1
  refine Cont.v ?_
  refine wp_istore6 (pc' := 423) rfl rfl rfl ?_
  refine wp_aload2 (pc' := 424) rfl rfl ?_
  refine wp_callV1 (pc' := 427) rfl rfl rfl rfl rfl (TK.k1 hT2 rfl) rfl rfl ?_
  refine m_thrown (d := d + 39) hT2 ?_
  rw [show I2 318 0 = nI k from hb0]
  refine Cont.v ?_
  refine wp_iload5 (pc' := 429) rfl rfl ?_
  refine wp_icmpeqT rfl rfl ?_
  refine wp_iload5 (pc' := 436) rfl rfl ?_
  by_cases hk : k = 0
  · subst hk
    refine wp_ifneF (pc' := 439) rfl rfl rfl ?_
    refine wp_aload3 (pc' := 440) rfl rfl ?_
    refine wp_iconst (v := nI 0) (pc' := 441) rfl rfl rfl ?_
    refine wp_lald 0 (pc' := 442) rfl (TK.kk hT2 rfl) rfl (by decide) (by decide) rfl ?_
    refine wp_iload6 (pc' := 444) rfl rfl ?_
    refine wp_i2l (pc' := 445) rfl rfl ?_
    refine wp_lcmp (pc' := 446) rfl rfl ?_
    refine wp_ifeqT rfl (lg_eq (hbv rfl)) ?_
    refine wp_goto rfl ?_
    exact kk K2 I2 L2 R2 n2 s2 _ _ rfl rfl hS2 hn2 hs2
  · refine wp_ifneT rfl (fun e => hk (eq_nI e (by omega) (by decide))) ?_
    refine wp_goto rfl ?_
    exact kk K2 I2 L2 R2 n2 s2 _ _ rfl rfl hS2 hn2 hs2
theorem k_4 {N d : Nat} {xs : Nat → Int32} {K : Nat → Nat × Nat} {I : Mem} {L : Nat → Nat → Int64} {R : Nat → Nat → Option Nat} {n s i : Nat} {v5 v6 : Value} {Q : Lo → Lm → Prop} (h : Sim N xs K I L R n) (hn : n + 6 ≤ lmCells) (hs : s + 876 ≤ lmSlots) (hi : i + 6 ≤ N) (hN : N ≤ 3072) (h5 : isL v5 = false) (h6 : isL v6 = false) (kk : NxT N xs (d + 40) Q i n s) : WP (d + 40) F_369 454 [.ref lmScr, .ref 0, .ref 318, .ref 337, .int (nI i), v5, v6] [] (K, I, L, R, n, s) Q := by
  have hsc := h.1.2.2.2.1
  have hxs := h.1.2.2.2.2.1.1
  have hT := h.1.1
  refine wp_aload1 (pc' := 455) rfl rfl ?_
  refine wp_callV1 (pc' := 458) rfl rfl rfl rfl rfl (TK.k1 hT rfl) rfl rfl ?_
  refine Ok.mono (Nat.le_refl _) (o_fault h) (fun o t hA => ?_)
  obtain ⟨v, rfl, hOk, hm1, hm2, hm3⟩ := hA
  obtain ⟨K1, I1, L1, R1, n1, s1⟩ := t
  refine Cont.v ?_
  refine wp_aload2 (pc' := 459) rfl rfl ?_
  refine wp_callV1 (pc' := 462) rfl rfl rfl rfl rfl hm3 rfl rfl ?_
  refine Ok.mono (Nat.le_refl _) hOk (fun o t hA => ?_)
  obtain ⟨rfl, hS2, hn2, hs2⟩ := hA
  obtain ⟨K2, I2, L2, R2, n2, s2⟩ := t
  refine Cont.v ?_
  refine wp_icmpeqT rfl rfl ?_
  exact kk K2 I2 L2 R2 n2 s2 _ _ h5 h6 hS2 hn2 hs2
theorem k_5 {N d : Nat} {xs : Nat → Int32} {K : Nat → Nat × Nat} {I : Mem} {L : Nat → Nat → Int64} {R : Nat → Nat → Option Nat} {n s i : Nat} {v5 v6 : Value} {Q : Lo → Lm → Prop} (h : Sim N xs K I L R n) (hn : n + 6 ≤ lmCells) (hs : s + 876 ≤ lmSlots) (hi : i + 6 ≤ N) (hN : N ≤ 3072) (h5 : isL v5 = false) (h6 : isL v6 = false) (kk : NxT N xs (d + 40) Q i n s) : WP (d + 40) F_369 467 [.ref lmScr, .ref 0, .ref 318, .ref 337, .int (nI i), v5, v6] [] (K, I, L, R, n, s) Q := by
  have hsc := h.1.2.2.2.1
  have hxs := h.1.2.2.2.2.1.1
  have hT := h.1.1
  refine wp_aload1 (pc' := 468) rfl rfl ?_
  refine wp_aload0 (pc' := 469) rfl rfl ?_
  refine wp_iload4 (pc' := 471) rfl rfl ?_
  refine wp_iconst (v := nI 1) (pc' := 472) rfl rfl rfl ?_
  refine wp_iaddN (pc' := 473) rfl rfl rfl rfl ?_
  refine wp_iald (i + 1) (pc' := 474) rfl hsc rfl (by omega) (by omega) rfl ?_
  rw [show I lmScr (i + 1) = xs (i + 1) from hxs (i + 1)]
  refine wp_aload0 (pc' := 475) rfl rfl ?_
  refine wp_iload4 (pc' := 477) rfl rfl ?_
  refine wp_iconst (v := nI 2) (pc' := 478) rfl rfl rfl ?_
  refine wp_iaddN (pc' := 479) rfl rfl rfl rfl ?_
  refine wp_iald (i + 2) (pc' := 480) rfl hsc rfl (by omega) (by omega) rfl ?_
  rw [show I lmScr (i + 2) = xs (i + 2) from hxs (i + 2)]
  refine wp_aload3 (pc' := 481) rfl rfl ?_
  refine wp_callS4 (pc' := 484) rfl rfl rfl rfl rfl rfl ?_
  refine Ok.mono (Nat.le_refl _) (o_cell h hn hs) (fun o t hA => ?_)
  obtain ⟨k, hk4, rfl, hOk, hm1, hm2, hm3⟩ := hA
  obtain ⟨K1, I1, L1, R1, n1, s1⟩ := t
  refine Cont.v ?_
  refine wp_istore5 (pc' := 486) rfl rfl rfl ?_
  refine wp_aload2 (pc' := 487) rfl rfl ?_
  refine wp_aload0 (pc' := 488) rfl rfl ?_
  refine wp_iload4 (pc' := 490) rfl rfl ?_
  refine wp_iconst (v := nI 1) (pc' := 491) rfl rfl rfl ?_
  refine wp_iaddN (pc' := 492) rfl rfl rfl rfl ?_
  refine wp_iald (i + 1) (pc' := 493) rfl hm1 rfl (by omega) (by omega) rfl ?_
  rw [show I1 lmScr (i + 1) = xs (i + 1) from hm2 (i + 1)]
  refine wp_aload0 (pc' := 494) rfl rfl ?_
  refine wp_iload4 (pc' := 496) rfl rfl ?_
  refine wp_iconst (v := nI 2) (pc' := 497) rfl rfl rfl ?_
  refine wp_iaddN (pc' := 498) rfl rfl rfl rfl ?_
  refine wp_iald (i + 2) (pc' := 499) rfl hm1 rfl (by omega) (by omega) rfl ?_
  rw [show I1 lmScr (i + 2) = xs (i + 2) from hm2 (i + 2)]
  refine wp_callV3 (pc' := 502) rfl rfl rfl rfl rfl hm3 rfl rfl ?_
  refine Ok.mono (Nat.le_refl _) hOk (fun o t hA => ?_)
  obtain ⟨b, rfl, hb0, hbv, hS2, hn2, hs2⟩ := hA
  obtain ⟨K2, I2, L2, R2, n2, s2⟩ := t
  have hT2 : TK K2 R2 n2 := hS2.1.1
  refine Cont.v ?_
  refine wp_istore6 (pc' := 504) rfl rfl rfl ?_
  refine wp_aload2 (pc' := 505) rfl rfl ?_
  refine wp_callV1 (pc' := 508) rfl rfl rfl rfl rfl (TK.k1 hT2 rfl) rfl rfl ?_
  refine m_thrown (d := d + 39) hT2 ?_
  rw [show I2 318 0 = nI k from hb0]
  refine Cont.v ?_
  refine wp_iload5 (pc' := 510) rfl rfl ?_
  refine wp_icmpeqT rfl rfl ?_
  refine wp_iload5 (pc' := 517) rfl rfl ?_
  by_cases hk : k = 0
  · subst hk
    refine wp_ifneF (pc' := 520) rfl rfl rfl ?_
    refine wp_aload3 (pc' := 521) rfl rfl ?_
    refine wp_iconst (v := nI 0) (pc' := 522) rfl rfl rfl ?_
    refine wp_lald 0 (pc' := 523) rfl (TK.kk hT2 rfl) rfl (by decide) (by decide) rfl ?_
    refine wp_iload6 (pc' := 525) rfl rfl ?_
    refine wp_i2l (pc' := 526) rfl rfl ?_
    refine wp_lcmp (pc' := 527) rfl rfl ?_
    refine wp_ifeqT rfl (lg_eq (hbv rfl)) ?_
    refine wp_goto rfl ?_
    exact kk K2 I2 L2 R2 n2 s2 _ _ rfl rfl hS2 hn2 hs2
  · refine wp_ifneT rfl (fun e => hk (eq_nI e (by omega) (by decide))) ?_
    refine wp_goto rfl ?_
    exact kk K2 I2 L2 R2 n2 s2 _ _ rfl rfl hS2 hn2 hs2
theorem k_6 {N d : Nat} {xs : Nat → Int32} {K : Nat → Nat × Nat} {I : Mem} {L : Nat → Nat → Int64} {R : Nat → Nat → Option Nat} {n s i : Nat} {v5 v6 : Value} {Q : Lo → Lm → Prop} (h : Sim N xs K I L R n) (hn : n + 6 ≤ lmCells) (hs : s + 876 ≤ lmSlots) (hi : i + 6 ≤ N) (hN : N ≤ 3072) (h5 : isL v5 = false) (h6 : isL v6 = false) (kk : NxT N xs (d + 40) Q i n s) : WP (d + 40) F_369 535 [.ref lmScr, .ref 0, .ref 318, .ref 337, .int (nI i), v5, v6] [] (K, I, L, R, n, s) Q := by
  have hsc := h.1.2.2.2.1
  have hxs := h.1.2.2.2.2.1.1
  have hT := h.1.1
  refine wp_aload1 (pc' := 536) rfl rfl ?_
  refine wp_aload0 (pc' := 537) rfl rfl ?_
  refine wp_iload4 (pc' := 539) rfl rfl ?_
  refine wp_iconst (v := nI 1) (pc' := 540) rfl rfl rfl ?_
  refine wp_iaddN (pc' := 541) rfl rfl rfl rfl ?_
  refine wp_iald (i + 1) (pc' := 542) rfl hsc rfl (by omega) (by omega) rfl ?_
  rw [show I lmScr (i + 1) = xs (i + 1) from hxs (i + 1)]
  refine wp_aload0 (pc' := 543) rfl rfl ?_
  refine wp_iload4 (pc' := 545) rfl rfl ?_
  refine wp_iconst (v := nI 2) (pc' := 546) rfl rfl rfl ?_
  refine wp_iaddN (pc' := 547) rfl rfl rfl rfl ?_
  refine wp_iald (i + 2) (pc' := 548) rfl hsc rfl (by omega) (by omega) rfl ?_
  rw [show I lmScr (i + 2) = xs (i + 2) from hxs (i + 2)]
  refine wp_aload3 (pc' := 549) rfl rfl ?_
  refine wp_callS4 (pc' := 552) rfl rfl rfl rfl rfl rfl ?_
  refine Ok.mono (Nat.le_refl _) (o_hearth h hn hs) (fun o t hA => ?_)
  obtain ⟨k, hk4, rfl, hOk, hm1, hm2, hm3⟩ := hA
  obtain ⟨K1, I1, L1, R1, n1, s1⟩ := t
  refine Cont.v ?_
  refine wp_istore5 (pc' := 554) rfl rfl rfl ?_
  refine wp_aload2 (pc' := 555) rfl rfl ?_
  refine wp_aload0 (pc' := 556) rfl rfl ?_
  refine wp_iload4 (pc' := 558) rfl rfl ?_
  refine wp_iconst (v := nI 1) (pc' := 559) rfl rfl rfl ?_
  refine wp_iaddN (pc' := 560) rfl rfl rfl rfl ?_
  refine wp_iald (i + 1) (pc' := 561) rfl hm1 rfl (by omega) (by omega) rfl ?_
  rw [show I1 lmScr (i + 1) = xs (i + 1) from hm2 (i + 1)]
  refine wp_aload0 (pc' := 562) rfl rfl ?_
  refine wp_iload4 (pc' := 564) rfl rfl ?_
  refine wp_iconst (v := nI 2) (pc' := 565) rfl rfl rfl ?_
  refine wp_iaddN (pc' := 566) rfl rfl rfl rfl ?_
  refine wp_iald (i + 2) (pc' := 567) rfl hm1 rfl (by omega) (by omega) rfl ?_
  rw [show I1 lmScr (i + 2) = xs (i + 2) from hm2 (i + 2)]
  refine wp_callV3 (pc' := 570) rfl rfl rfl rfl rfl hm3 rfl rfl ?_
  refine Ok.mono (Nat.le_refl _) hOk (fun o t hA => ?_)
  obtain ⟨b, rfl, hb0, hbv, hS2, hn2, hs2⟩ := hA
  obtain ⟨K2, I2, L2, R2, n2, s2⟩ := t
  have hT2 : TK K2 R2 n2 := hS2.1.1
  refine Cont.v ?_
  refine wp_istore6 (pc' := 572) rfl rfl rfl ?_
  refine wp_aload2 (pc' := 573) rfl rfl ?_
  refine wp_callV1 (pc' := 576) rfl rfl rfl rfl rfl (TK.k1 hT2 rfl) rfl rfl ?_
  refine m_thrown (d := d + 39) hT2 ?_
  rw [show I2 318 0 = nI k from hb0]
  refine Cont.v ?_
  refine wp_iload5 (pc' := 578) rfl rfl ?_
  refine wp_icmpeqT rfl rfl ?_
  refine wp_iload5 (pc' := 585) rfl rfl ?_
  by_cases hk : k = 0
  · subst hk
    refine wp_ifneF (pc' := 588) rfl rfl rfl ?_
    refine wp_aload3 (pc' := 589) rfl rfl ?_
    refine wp_iconst (v := nI 0) (pc' := 590) rfl rfl rfl ?_
    refine wp_lald 0 (pc' := 591) rfl (TK.kk hT2 rfl) rfl (by decide) (by decide) rfl ?_
    refine wp_iload6 (pc' := 593) rfl rfl ?_
    refine wp_i2l (pc' := 594) rfl rfl ?_
    refine wp_lcmp (pc' := 595) rfl rfl ?_
    refine wp_ifeqT rfl (lg_eq (hbv rfl)) ?_
    refine wp_goto rfl ?_
    exact kk K2 I2 L2 R2 n2 s2 _ _ rfl rfl hS2 hn2 hs2
  · refine wp_ifneT rfl (fun e => hk (eq_nI e (by omega) (by decide))) ?_
    refine wp_goto rfl ?_
    exact kk K2 I2 L2 R2 n2 s2 _ _ rfl rfl hS2 hn2 hs2
theorem k_7 {N d : Nat} {xs : Nat → Int32} {K : Nat → Nat × Nat} {I : Mem} {L : Nat → Nat → Int64} {R : Nat → Nat → Option Nat} {n s i : Nat} {v5 v6 : Value} {Q : Lo → Lm → Prop} (h : Sim N xs K I L R n) (hn : n + 6 ≤ lmCells) (hs : s + 876 ≤ lmSlots) (hi : i + 6 ≤ N) (hN : N ≤ 3072) (h5 : isL v5 = false) (h6 : isL v6 = false) (kk : NxT N xs (d + 40) Q i n s) : WP (d + 40) F_369 603 [.ref lmScr, .ref 0, .ref 318, .ref 337, .int (nI i), v5, v6] [] (K, I, L, R, n, s) Q := by
  have hsc := h.1.2.2.2.1
  have hxs := h.1.2.2.2.2.1.1
  have hT := h.1.1
  refine wp_aload1 (pc' := 604) rfl rfl ?_
  refine wp_aload0 (pc' := 605) rfl rfl ?_
  refine wp_iload4 (pc' := 607) rfl rfl ?_
  refine wp_iconst (v := nI 1) (pc' := 608) rfl rfl rfl ?_
  refine wp_iaddN (pc' := 609) rfl rfl rfl rfl ?_
  refine wp_iald (i + 1) (pc' := 610) rfl hsc rfl (by omega) (by omega) rfl ?_
  rw [show I lmScr (i + 1) = xs (i + 1) from hxs (i + 1)]
  refine wp_aload3 (pc' := 611) rfl rfl ?_
  refine wp_callS3 (pc' := 614) rfl rfl rfl rfl rfl rfl ?_
  refine Ok.mono (Nat.le_refl _) (o_days h hn hs) (fun o t hA => ?_)
  obtain ⟨k, hk4, rfl, hOk, hm1, hm2, hm3⟩ := hA
  obtain ⟨K1, I1, L1, R1, n1, s1⟩ := t
  refine Cont.v ?_
  refine wp_istore5 (pc' := 616) rfl rfl rfl ?_
  refine wp_aload2 (pc' := 617) rfl rfl ?_
  refine wp_aload0 (pc' := 618) rfl rfl ?_
  refine wp_iload4 (pc' := 620) rfl rfl ?_
  refine wp_iconst (v := nI 1) (pc' := 621) rfl rfl rfl ?_
  refine wp_iaddN (pc' := 622) rfl rfl rfl rfl ?_
  refine wp_iald (i + 1) (pc' := 623) rfl hm1 rfl (by omega) (by omega) rfl ?_
  rw [show I1 lmScr (i + 1) = xs (i + 1) from hm2 (i + 1)]
  refine wp_callV2 (pc' := 626) rfl rfl rfl rfl rfl hm3 rfl rfl ?_
  refine Ok.mono (Nat.le_refl _) hOk (fun o t hA => ?_)
  obtain ⟨b, rfl, hb0, hbv, hS2, hn2, hs2⟩ := hA
  obtain ⟨K2, I2, L2, R2, n2, s2⟩ := t
  have hT2 : TK K2 R2 n2 := hS2.1.1
  refine Cont.v ?_
  refine wp_istore6 (pc' := 628) rfl rfl rfl ?_
  refine wp_aload2 (pc' := 629) rfl rfl ?_
  refine wp_callV1 (pc' := 632) rfl rfl rfl rfl rfl (TK.k1 hT2 rfl) rfl rfl ?_
  refine m_thrown (d := d + 39) hT2 ?_
  rw [show I2 318 0 = nI k from hb0]
  refine Cont.v ?_
  refine wp_iload5 (pc' := 634) rfl rfl ?_
  refine wp_icmpeqT rfl rfl ?_
  refine wp_iload5 (pc' := 641) rfl rfl ?_
  by_cases hk : k = 0
  · subst hk
    refine wp_ifneF (pc' := 644) rfl rfl rfl ?_
    refine wp_aload3 (pc' := 645) rfl rfl ?_
    refine wp_iconst (v := nI 0) (pc' := 646) rfl rfl rfl ?_
    refine wp_lald 0 (pc' := 647) rfl (TK.kk hT2 rfl) rfl (by decide) (by decide) rfl ?_
    refine wp_iload6 (pc' := 649) rfl rfl ?_
    refine wp_i2l (pc' := 650) rfl rfl ?_
    refine wp_lcmp (pc' := 651) rfl rfl ?_
    refine wp_ifeqT rfl (lg_eq (hbv rfl)) ?_
    refine wp_goto rfl ?_
    exact kk K2 I2 L2 R2 n2 s2 _ _ rfl rfl hS2 hn2 hs2
  · refine wp_ifneT rfl (fun e => hk (eq_nI e (by omega) (by decide))) ?_
    refine wp_goto rfl ?_
    exact kk K2 I2 L2 R2 n2 s2 _ _ rfl rfl hS2 hn2 hs2
theorem k_8 {N d : Nat} {xs : Nat → Int32} {K : Nat → Nat × Nat} {I : Mem} {L : Nat → Nat → Int64} {R : Nat → Nat → Option Nat} {n s i : Nat} {v5 v6 : Value} {Q : Lo → Lm → Prop} (h : Sim N xs K I L R n) (hn : n + 6 ≤ lmCells) (hs : s + 876 ≤ lmSlots) (hi : i + 6 ≤ N) (hN : N ≤ 3072) (h5 : isL v5 = false) (h6 : isL v6 = false) (kk : NxT N xs (d + 40) Q i n s) : WP (d + 40) F_369 659 [.ref lmScr, .ref 0, .ref 318, .ref 337, .int (nI i), v5, v6] [] (K, I, L, R, n, s) Q := by
  have hsc := h.1.2.2.2.1
  have hxs := h.1.2.2.2.2.1.1
  have hT := h.1.1
  refine wp_aload1 (pc' := 660) rfl rfl ?_
  refine wp_aload0 (pc' := 661) rfl rfl ?_
  refine wp_iload4 (pc' := 663) rfl rfl ?_
  refine wp_iconst (v := nI 1) (pc' := 664) rfl rfl rfl ?_
  refine wp_iaddN (pc' := 665) rfl rfl rfl rfl ?_
  refine wp_iald (i + 1) (pc' := 666) rfl hsc rfl (by omega) (by omega) rfl ?_
  rw [show I lmScr (i + 1) = xs (i + 1) from hxs (i + 1)]
  refine wp_aload0 (pc' := 667) rfl rfl ?_
  refine wp_iload4 (pc' := 669) rfl rfl ?_
  refine wp_iconst (v := nI 2) (pc' := 670) rfl rfl rfl ?_
  refine wp_iaddN (pc' := 671) rfl rfl rfl rfl ?_
  refine wp_iald (i + 2) (pc' := 672) rfl hsc rfl (by omega) (by omega) rfl ?_
  rw [show I lmScr (i + 2) = xs (i + 2) from hxs (i + 2)]
  refine wp_aload3 (pc' := 673) rfl rfl ?_
  refine wp_callS4 (pc' := 676) rfl rfl rfl rfl rfl rfl ?_
  refine Ok.mono (Nat.le_refl _) (o_cut h hn hs) (fun o t hA => ?_)
  obtain ⟨k, hk4, rfl, hOk, hm1, hm2, hm3⟩ := hA
  obtain ⟨K1, I1, L1, R1, n1, s1⟩ := t
  refine Cont.v ?_
  refine wp_istore5 (pc' := 678) rfl rfl rfl ?_
  refine wp_aload2 (pc' := 679) rfl rfl ?_
  refine wp_aload0 (pc' := 680) rfl rfl ?_
  refine wp_iload4 (pc' := 682) rfl rfl ?_
  refine wp_iconst (v := nI 1) (pc' := 683) rfl rfl rfl ?_
  refine wp_iaddN (pc' := 684) rfl rfl rfl rfl ?_
  refine wp_iald (i + 1) (pc' := 685) rfl hm1 rfl (by omega) (by omega) rfl ?_
  rw [show I1 lmScr (i + 1) = xs (i + 1) from hm2 (i + 1)]
  refine wp_aload0 (pc' := 686) rfl rfl ?_
  refine wp_iload4 (pc' := 688) rfl rfl ?_
  refine wp_iconst (v := nI 2) (pc' := 689) rfl rfl rfl ?_
  refine wp_iaddN (pc' := 690) rfl rfl rfl rfl ?_
  refine wp_iald (i + 2) (pc' := 691) rfl hm1 rfl (by omega) (by omega) rfl ?_
  rw [show I1 lmScr (i + 2) = xs (i + 2) from hm2 (i + 2)]
  refine wp_callV3 (pc' := 694) rfl rfl rfl rfl rfl hm3 rfl rfl ?_
  refine Ok.mono (Nat.le_refl _) hOk (fun o t hA => ?_)
  obtain ⟨b, rfl, hb0, hbv, hS2, hn2, hs2⟩ := hA
  obtain ⟨K2, I2, L2, R2, n2, s2⟩ := t
  have hT2 : TK K2 R2 n2 := hS2.1.1
  refine Cont.v ?_
  refine wp_istore6 (pc' := 696) rfl rfl rfl ?_
  refine wp_aload2 (pc' := 697) rfl rfl ?_
  refine wp_callV1 (pc' := 700) rfl rfl rfl rfl rfl (TK.k1 hT2 rfl) rfl rfl ?_
  refine m_thrown (d := d + 39) hT2 ?_
  rw [show I2 318 0 = nI k from hb0]
  refine Cont.v ?_
  refine wp_iload5 (pc' := 702) rfl rfl ?_
  refine wp_icmpeqT rfl rfl ?_
  refine wp_iload5 (pc' := 709) rfl rfl ?_
  by_cases hk : k = 0
  · subst hk
    refine wp_ifneF (pc' := 712) rfl rfl rfl ?_
    refine wp_aload3 (pc' := 713) rfl rfl ?_
    refine wp_iconst (v := nI 0) (pc' := 714) rfl rfl rfl ?_
    refine wp_lald 0 (pc' := 715) rfl (TK.kk hT2 rfl) rfl (by decide) (by decide) rfl ?_
    refine wp_iload6 (pc' := 717) rfl rfl ?_
    refine wp_i2l (pc' := 718) rfl rfl ?_
    refine wp_lcmp (pc' := 719) rfl rfl ?_
    refine wp_ifeqT rfl (lg_eq (hbv rfl)) ?_
    refine wp_goto rfl ?_
    exact kk K2 I2 L2 R2 n2 s2 _ _ rfl rfl hS2 hn2 hs2
  · refine wp_ifneT rfl (fun e => hk (eq_nI e (by omega) (by decide))) ?_
    refine wp_goto rfl ?_
    exact kk K2 I2 L2 R2 n2 s2 _ _ rfl rfl hS2 hn2 hs2
theorem k_9 {N d : Nat} {xs : Nat → Int32} {K : Nat → Nat × Nat} {I : Mem} {L : Nat → Nat → Int64} {R : Nat → Nat → Option Nat} {n s i : Nat} {v5 v6 : Value} {Q : Lo → Lm → Prop} (h : Sim N xs K I L R n) (hn : n + 6 ≤ lmCells) (hs : s + 876 ≤ lmSlots) (hi : i + 6 ≤ N) (hN : N ≤ 3072) (h5 : isL v5 = false) (h6 : isL v6 = false) (kk : NxT N xs (d + 40) Q i n s) : WP (d + 40) F_369 727 [.ref lmScr, .ref 0, .ref 318, .ref 337, .int (nI i), v5, v6] [] (K, I, L, R, n, s) Q := by
  have hsc := h.1.2.2.2.1
  have hxs := h.1.2.2.2.2.1.1
  have hT := h.1.1
  refine wp_aload1 (pc' := 728) rfl rfl ?_
  refine wp_aload0 (pc' := 729) rfl rfl ?_
  refine wp_iload4 (pc' := 731) rfl rfl ?_
  refine wp_iconst (v := nI 1) (pc' := 732) rfl rfl rfl ?_
  refine wp_iaddN (pc' := 733) rfl rfl rfl rfl ?_
  refine wp_iald (i + 1) (pc' := 734) rfl hsc rfl (by omega) (by omega) rfl ?_
  rw [show I lmScr (i + 1) = xs (i + 1) from hxs (i + 1)]
  refine wp_aload3 (pc' := 735) rfl rfl ?_
  refine wp_callS3 (pc' := 738) rfl rfl rfl rfl rfl rfl ?_
  refine Ok.mono (Nat.le_refl _) (o_foot h hn hs) (fun o t hA => ?_)
  obtain ⟨k, hk4, rfl, hOk, hm1, hm2, hm3⟩ := hA
  obtain ⟨K1, I1, L1, R1, n1, s1⟩ := t
  refine Cont.v ?_
  refine wp_istore5 (pc' := 740) rfl rfl rfl ?_
  refine wp_aload2 (pc' := 741) rfl rfl ?_
  refine wp_aload0 (pc' := 742) rfl rfl ?_
  refine wp_iload4 (pc' := 744) rfl rfl ?_
  refine wp_iconst (v := nI 1) (pc' := 745) rfl rfl rfl ?_
  refine wp_iaddN (pc' := 746) rfl rfl rfl rfl ?_
  refine wp_iald (i + 1) (pc' := 747) rfl hm1 rfl (by omega) (by omega) rfl ?_
  rw [show I1 lmScr (i + 1) = xs (i + 1) from hm2 (i + 1)]
  refine wp_callV2 (pc' := 750) rfl rfl rfl rfl rfl hm3 rfl rfl ?_
  refine Ok.mono (Nat.le_refl _) hOk (fun o t hA => ?_)
  obtain ⟨b, rfl, hb0, hbv, hS2, hn2, hs2⟩ := hA
  obtain ⟨K2, I2, L2, R2, n2, s2⟩ := t
  have hT2 : TK K2 R2 n2 := hS2.1.1
  refine Cont.v ?_
  refine wp_istore6 (pc' := 752) rfl rfl rfl ?_
  refine wp_aload2 (pc' := 753) rfl rfl ?_
  refine wp_callV1 (pc' := 756) rfl rfl rfl rfl rfl (TK.k1 hT2 rfl) rfl rfl ?_
  refine m_thrown (d := d + 39) hT2 ?_
  rw [show I2 318 0 = nI k from hb0]
  refine Cont.v ?_
  refine wp_iload5 (pc' := 758) rfl rfl ?_
  refine wp_icmpeqT rfl rfl ?_
  refine wp_iload5 (pc' := 765) rfl rfl ?_
  by_cases hk : k = 0
  · subst hk
    refine wp_ifneF (pc' := 768) rfl rfl rfl ?_
    refine wp_aload3 (pc' := 769) rfl rfl ?_
    refine wp_iconst (v := nI 0) (pc' := 770) rfl rfl rfl ?_
    refine wp_lald 0 (pc' := 771) rfl (TK.kk hT2 rfl) rfl (by decide) (by decide) rfl ?_
    refine wp_iload6 (pc' := 773) rfl rfl ?_
    refine wp_i2l (pc' := 774) rfl rfl ?_
    refine wp_lcmp (pc' := 775) rfl rfl ?_
    refine wp_ifeqT rfl (lg_eq (hbv rfl)) ?_
    refine wp_goto rfl ?_
    exact kk K2 I2 L2 R2 n2 s2 _ _ rfl rfl hS2 hn2 hs2
  · refine wp_ifneT rfl (fun e => hk (eq_nI e (by omega) (by decide))) ?_
    refine wp_goto rfl ?_
    exact kk K2 I2 L2 R2 n2 s2 _ _ rfl rfl hS2 hn2 hs2
theorem k_10 {N d : Nat} {xs : Nat → Int32} {K : Nat → Nat × Nat} {I : Mem} {L : Nat → Nat → Int64} {R : Nat → Nat → Option Nat} {n s i : Nat} {v5 v6 : Value} {Q : Lo → Lm → Prop} (h : Sim N xs K I L R n) (hn : n + 6 ≤ lmCells) (hs : s + 876 ≤ lmSlots) (hi : i + 6 ≤ N) (hN : N ≤ 3072) (h5 : isL v5 = false) (h6 : isL v6 = false) (kk : NxT N xs (d + 40) Q i n s) : WP (d + 40) F_369 783 [.ref lmScr, .ref 0, .ref 318, .ref 337, .int (nI i), v5, v6] [] (K, I, L, R, n, s) Q := by
  have hsc := h.1.2.2.2.1
  have hxs := h.1.2.2.2.2.1.1
  have hT := h.1.1
  refine wp_aload1 (pc' := 784) rfl rfl ?_
  refine wp_aload0 (pc' := 785) rfl rfl ?_
  refine wp_iload4 (pc' := 787) rfl rfl ?_
  refine wp_iconst (v := nI 1) (pc' := 788) rfl rfl rfl ?_
  refine wp_iaddN (pc' := 789) rfl rfl rfl rfl ?_
  refine wp_iald (i + 1) (pc' := 790) rfl hsc rfl (by omega) (by omega) rfl ?_
  rw [show I lmScr (i + 1) = xs (i + 1) from hxs (i + 1)]
  refine wp_aload0 (pc' := 791) rfl rfl ?_
  refine wp_iload4 (pc' := 793) rfl rfl ?_
  refine wp_iconst (v := nI 2) (pc' := 794) rfl rfl rfl ?_
  refine wp_iaddN (pc' := 795) rfl rfl rfl rfl ?_
  refine wp_iald (i + 2) (pc' := 796) rfl hsc rfl (by omega) (by omega) rfl ?_
  rw [show I lmScr (i + 2) = xs (i + 2) from hxs (i + 2)]
  refine wp_aload3 (pc' := 797) rfl rfl ?_
  refine wp_callS4 (pc' := 800) rfl rfl rfl rfl rfl rfl ?_
  refine Ok.mono (Nat.le_refl _) (o_cart h hn hs) (fun o t hA => ?_)
  obtain ⟨k, hk4, rfl, hOk, hm1, hm2, hm3⟩ := hA
  obtain ⟨K1, I1, L1, R1, n1, s1⟩ := t
  refine Cont.v ?_
  refine wp_istore5 (pc' := 802) rfl rfl rfl ?_
  refine wp_aload2 (pc' := 803) rfl rfl ?_
  refine wp_aload0 (pc' := 804) rfl rfl ?_
  refine wp_iload4 (pc' := 806) rfl rfl ?_
  refine wp_iconst (v := nI 1) (pc' := 807) rfl rfl rfl ?_
  refine wp_iaddN (pc' := 808) rfl rfl rfl rfl ?_
  refine wp_iald (i + 1) (pc' := 809) rfl hm1 rfl (by omega) (by omega) rfl ?_
  rw [show I1 lmScr (i + 1) = xs (i + 1) from hm2 (i + 1)]
  refine wp_aload0 (pc' := 810) rfl rfl ?_
  refine wp_iload4 (pc' := 812) rfl rfl ?_
  refine wp_iconst (v := nI 2) (pc' := 813) rfl rfl rfl ?_
  refine wp_iaddN (pc' := 814) rfl rfl rfl rfl ?_
  refine wp_iald (i + 2) (pc' := 815) rfl hm1 rfl (by omega) (by omega) rfl ?_
  rw [show I1 lmScr (i + 2) = xs (i + 2) from hm2 (i + 2)]
  refine wp_callV3 (pc' := 818) rfl rfl rfl rfl rfl hm3 rfl rfl ?_
  refine Ok.mono (Nat.le_refl _) hOk (fun o t hA => ?_)
  obtain ⟨b, rfl, hb0, hbv, hS2, hn2, hs2⟩ := hA
  obtain ⟨K2, I2, L2, R2, n2, s2⟩ := t
  have hT2 : TK K2 R2 n2 := hS2.1.1
  refine Cont.v ?_
  refine wp_istore6 (pc' := 820) rfl rfl rfl ?_
  refine wp_aload2 (pc' := 821) rfl rfl ?_
  refine wp_callV1 (pc' := 824) rfl rfl rfl rfl rfl (TK.k1 hT2 rfl) rfl rfl ?_
  refine m_thrown (d := d + 39) hT2 ?_
  rw [show I2 318 0 = nI k from hb0]
  refine Cont.v ?_
  refine wp_iload5 (pc' := 826) rfl rfl ?_
  refine wp_icmpeqT rfl rfl ?_
  refine wp_iload5 (pc' := 833) rfl rfl ?_
  by_cases hk : k = 0
  · subst hk
    refine wp_ifneF (pc' := 836) rfl rfl rfl ?_
    refine wp_aload3 (pc' := 837) rfl rfl ?_
    refine wp_iconst (v := nI 0) (pc' := 838) rfl rfl rfl ?_
    refine wp_lald 0 (pc' := 839) rfl (TK.kk hT2 rfl) rfl (by decide) (by decide) rfl ?_
    refine wp_iload6 (pc' := 841) rfl rfl ?_
    refine wp_i2l (pc' := 842) rfl rfl ?_
    refine wp_lcmp (pc' := 843) rfl rfl ?_
    refine wp_ifeqT rfl (lg_eq (hbv rfl)) ?_
    refine wp_goto rfl ?_
    exact kk K2 I2 L2 R2 n2 s2 _ _ rfl rfl hS2 hn2 hs2
  · refine wp_ifneT rfl (fun e => hk (eq_nI e (by omega) (by decide))) ?_
    refine wp_goto rfl ?_
    exact kk K2 I2 L2 R2 n2 s2 _ _ rfl rfl hS2 hn2 hs2
theorem k_11 {N d : Nat} {xs : Nat → Int32} {K : Nat → Nat × Nat} {I : Mem} {L : Nat → Nat → Int64} {R : Nat → Nat → Option Nat} {n s i : Nat} {v5 v6 : Value} {Q : Lo → Lm → Prop} (h : Sim N xs K I L R n) (hn : n + 6 ≤ lmCells) (hs : s + 876 ≤ lmSlots) (hi : i + 6 ≤ N) (hN : N ≤ 3072) (h5 : isL v5 = false) (h6 : isL v6 = false) (kk : NxT N xs (d + 40) Q i n s) : WP (d + 40) F_369 851 [.ref lmScr, .ref 0, .ref 318, .ref 337, .int (nI i), v5, v6] [] (K, I, L, R, n, s) Q := by
  have hsc := h.1.2.2.2.1
  have hxs := h.1.2.2.2.2.1.1
  have hT := h.1.1
  refine wp_aload1 (pc' := 852) rfl rfl ?_
  refine wp_aload0 (pc' := 853) rfl rfl ?_
  refine wp_iload4 (pc' := 855) rfl rfl ?_
  refine wp_iconst (v := nI 1) (pc' := 856) rfl rfl rfl ?_
  refine wp_iaddN (pc' := 857) rfl rfl rfl rfl ?_
  refine wp_iald (i + 1) (pc' := 858) rfl hsc rfl (by omega) (by omega) rfl ?_
  rw [show I lmScr (i + 1) = xs (i + 1) from hxs (i + 1)]
  refine wp_aload3 (pc' := 859) rfl rfl ?_
  refine wp_callS3 (pc' := 862) rfl rfl rfl rfl rfl rfl ?_
  refine Ok.mono (Nat.le_refl _) (o_dig h hn hs) (fun o t hA => ?_)
  obtain ⟨k, hk4, rfl, hOk, hm1, hm2, hm3⟩ := hA
  obtain ⟨K1, I1, L1, R1, n1, s1⟩ := t
  refine Cont.v ?_
  refine wp_istore5 (pc' := 864) rfl rfl rfl ?_
  refine wp_aload2 (pc' := 865) rfl rfl ?_
  refine wp_aload0 (pc' := 866) rfl rfl ?_
  refine wp_iload4 (pc' := 868) rfl rfl ?_
  refine wp_iconst (v := nI 1) (pc' := 869) rfl rfl rfl ?_
  refine wp_iaddN (pc' := 870) rfl rfl rfl rfl ?_
  refine wp_iald (i + 1) (pc' := 871) rfl hm1 rfl (by omega) (by omega) rfl ?_
  rw [show I1 lmScr (i + 1) = xs (i + 1) from hm2 (i + 1)]
  refine wp_callV2 (pc' := 874) rfl rfl rfl rfl rfl hm3 rfl rfl ?_
  refine Ok.mono (Nat.le_refl _) hOk (fun o t hA => ?_)
  obtain ⟨b, rfl, hb0, hbv, hS2, hn2, hs2⟩ := hA
  obtain ⟨K2, I2, L2, R2, n2, s2⟩ := t
  have hT2 : TK K2 R2 n2 := hS2.1.1
  refine Cont.v ?_
  refine wp_istore6 (pc' := 876) rfl rfl rfl ?_
  refine wp_aload2 (pc' := 877) rfl rfl ?_
  refine wp_callV1 (pc' := 880) rfl rfl rfl rfl rfl (TK.k1 hT2 rfl) rfl rfl ?_
  refine m_thrown (d := d + 39) hT2 ?_
  rw [show I2 318 0 = nI k from hb0]
  refine Cont.v ?_
  refine wp_iload5 (pc' := 882) rfl rfl ?_
  refine wp_icmpeqT rfl rfl ?_
  refine wp_iload5 (pc' := 889) rfl rfl ?_
  by_cases hk : k = 0
  · subst hk
    refine wp_ifneF (pc' := 892) rfl rfl rfl ?_
    refine wp_aload3 (pc' := 893) rfl rfl ?_
    refine wp_iconst (v := nI 0) (pc' := 894) rfl rfl rfl ?_
    refine wp_lald 0 (pc' := 895) rfl (TK.kk hT2 rfl) rfl (by decide) (by decide) rfl ?_
    refine wp_iload6 (pc' := 897) rfl rfl ?_
    have hbv2 : L2 337 0 = if b = nI 0 then 0 else 1 := hbv rfl
    by_cases hz : b = nI 0
    · refine wp_ifeqT rfl hz ?_
      refine wp_lconst (v := 0) (pc' := 905) rfl rfl rfl ?_
      refine wp_lcmp (pc' := 906) rfl rfl ?_
      refine wp_ifeqT rfl (lg_eq (by rw [hbv2, if_pos hz])) ?_
      refine wp_goto rfl ?_
      exact kk K2 I2 L2 R2 n2 s2 _ _ rfl rfl hS2 hn2 hs2
    · refine wp_ifeqF (pc' := 900) rfl hz rfl ?_
      refine wp_lconst (v := 1) (pc' := 901) rfl rfl rfl ?_
      refine wp_goto rfl ?_
      refine wp_lcmp (pc' := 906) rfl rfl ?_
      refine wp_ifeqT rfl (lg_eq (by rw [hbv2, if_neg hz])) ?_
      refine wp_goto rfl ?_
      exact kk K2 I2 L2 R2 n2 s2 _ _ rfl rfl hS2 hn2 hs2
  · refine wp_ifneT rfl (fun e => hk (eq_nI e (by omega) (by decide))) ?_
    refine wp_goto rfl ?_
    exact kk K2 I2 L2 R2 n2 s2 _ _ rfl rfl hS2 hn2 hs2
theorem k_12 {N d : Nat} {xs : Nat → Int32} {K : Nat → Nat × Nat} {I : Mem} {L : Nat → Nat → Int64} {R : Nat → Nat → Option Nat} {n s i : Nat} {v5 v6 : Value} {Q : Lo → Lm → Prop} (h : Sim N xs K I L R n) (hn : n + 6 ≤ lmCells) (hs : s + 876 ≤ lmSlots) (hi : i + 6 ≤ N) (hN : N ≤ 3072) (h5 : isL v5 = false) (h6 : isL v6 = false) (kk : NxT N xs (d + 40) Q i n s) : WP (d + 40) F_369 914 [.ref lmScr, .ref 0, .ref 318, .ref 337, .int (nI i), v5, v6] [] (K, I, L, R, n, s) Q := by
  have hsc := h.1.2.2.2.1
  have hxs := h.1.2.2.2.2.1.1
  have hT := h.1.1
  refine wp_aload1 (pc' := 915) rfl rfl ?_
  refine wp_aload0 (pc' := 916) rfl rfl ?_
  refine wp_iload4 (pc' := 918) rfl rfl ?_
  refine wp_iconst (v := nI 1) (pc' := 919) rfl rfl rfl ?_
  refine wp_iaddN (pc' := 920) rfl rfl rfl rfl ?_
  refine wp_iald (i + 1) (pc' := 921) rfl hsc rfl (by omega) (by omega) rfl ?_
  rw [show I lmScr (i + 1) = xs (i + 1) from hxs (i + 1)]
  refine wp_aload3 (pc' := 922) rfl rfl ?_
  refine wp_callS3 (pc' := 925) rfl rfl rfl rfl rfl rfl ?_
  refine Ok.mono (Nat.le_refl _) (o_block h hn hs) (fun o t hA => ?_)
  obtain ⟨k, hk4, rfl, hOk, hm1, hm2, hm3⟩ := hA
  obtain ⟨K1, I1, L1, R1, n1, s1⟩ := t
  refine Cont.v ?_
  refine wp_istore5 (pc' := 927) rfl rfl rfl ?_
  refine wp_aload2 (pc' := 928) rfl rfl ?_
  refine wp_aload0 (pc' := 929) rfl rfl ?_
  refine wp_iload4 (pc' := 931) rfl rfl ?_
  refine wp_iconst (v := nI 1) (pc' := 932) rfl rfl rfl ?_
  refine wp_iaddN (pc' := 933) rfl rfl rfl rfl ?_
  refine wp_iald (i + 1) (pc' := 934) rfl hm1 rfl (by omega) (by omega) rfl ?_
  rw [show I1 lmScr (i + 1) = xs (i + 1) from hm2 (i + 1)]
  refine wp_callV2 (pc' := 937) rfl rfl rfl rfl rfl hm3 rfl rfl ?_
  refine Ok.mono (Nat.le_refl _) hOk (fun o t hA => ?_)
  obtain ⟨b, rfl, hb0, hbv, hS2, hn2, hs2⟩ := hA
  obtain ⟨K2, I2, L2, R2, n2, s2⟩ := t
  have hT2 : TK K2 R2 n2 := hS2.1.1
  refine Cont.v ?_
  refine wp_istore6 (pc' := 939) rfl rfl rfl ?_
  refine wp_aload2 (pc' := 940) rfl rfl ?_
  refine wp_callV1 (pc' := 943) rfl rfl rfl rfl rfl (TK.k1 hT2 rfl) rfl rfl ?_
  refine m_thrown (d := d + 39) hT2 ?_
  rw [show I2 318 0 = nI k from hb0]
  refine Cont.v ?_
  refine wp_iload5 (pc' := 945) rfl rfl ?_
  refine wp_icmpeqT rfl rfl ?_
  refine wp_iload5 (pc' := 952) rfl rfl ?_
  by_cases hk : k = 0
  · subst hk
    refine wp_ifneF (pc' := 955) rfl rfl rfl ?_
    refine wp_aload3 (pc' := 956) rfl rfl ?_
    refine wp_iconst (v := nI 0) (pc' := 957) rfl rfl rfl ?_
    refine wp_lald 0 (pc' := 958) rfl (TK.kk hT2 rfl) rfl (by decide) (by decide) rfl ?_
    refine wp_iload6 (pc' := 960) rfl rfl ?_
    have hbv2 : L2 337 0 = if b = nI 0 then 0 else 1 := hbv rfl
    by_cases hz : b = nI 0
    · refine wp_ifeqT rfl hz ?_
      refine wp_lconst (v := 0) (pc' := 968) rfl rfl rfl ?_
      refine wp_lcmp (pc' := 969) rfl rfl ?_
      refine wp_ifeqT rfl (lg_eq (by rw [hbv2, if_pos hz])) ?_
      refine wp_goto rfl ?_
      exact kk K2 I2 L2 R2 n2 s2 _ _ rfl rfl hS2 hn2 hs2
    · refine wp_ifeqF (pc' := 963) rfl hz rfl ?_
      refine wp_lconst (v := 1) (pc' := 964) rfl rfl rfl ?_
      refine wp_goto rfl ?_
      refine wp_lcmp (pc' := 969) rfl rfl ?_
      refine wp_ifeqT rfl (lg_eq (by rw [hbv2, if_neg hz])) ?_
      refine wp_goto rfl ?_
      exact kk K2 I2 L2 R2 n2 s2 _ _ rfl rfl hS2 hn2 hs2
  · refine wp_ifneT rfl (fun e => hk (eq_nI e (by omega) (by decide))) ?_
    refine wp_goto rfl ?_
    exact kk K2 I2 L2 R2 n2 s2 _ _ rfl rfl hS2 hn2 hs2
theorem k_13 {N d : Nat} {xs : Nat → Int32} {K : Nat → Nat × Nat} {I : Mem} {L : Nat → Nat → Int64} {R : Nat → Nat → Option Nat} {n s i : Nat} {v5 v6 : Value} {Q : Lo → Lm → Prop} (h : Sim N xs K I L R n) (hn : n + 6 ≤ lmCells) (hs : s + 876 ≤ lmSlots) (hi : i + 6 ≤ N) (hN : N ≤ 3072) (h5 : isL v5 = false) (h6 : isL v6 = false) (kk : NxT N xs (d + 40) Q i n s) : WP (d + 40) F_369 977 [.ref lmScr, .ref 0, .ref 318, .ref 337, .int (nI i), v5, v6] [] (K, I, L, R, n, s) Q := by
  have hsc := h.1.2.2.2.1
  have hxs := h.1.2.2.2.2.1.1
  have hT := h.1.1
  refine wp_aload1 (pc' := 978) rfl rfl ?_
  refine wp_aload0 (pc' := 979) rfl rfl ?_
  refine wp_iload4 (pc' := 981) rfl rfl ?_
  refine wp_iconst (v := nI 1) (pc' := 982) rfl rfl rfl ?_
  refine wp_iaddN (pc' := 983) rfl rfl rfl rfl ?_
  refine wp_iald (i + 1) (pc' := 984) rfl hsc rfl (by omega) (by omega) rfl ?_
  rw [show I lmScr (i + 1) = xs (i + 1) from hxs (i + 1)]
  refine wp_aload0 (pc' := 985) rfl rfl ?_
  refine wp_iload4 (pc' := 987) rfl rfl ?_
  refine wp_iconst (v := nI 2) (pc' := 988) rfl rfl rfl ?_
  refine wp_iaddN (pc' := 989) rfl rfl rfl rfl ?_
  refine wp_iald (i + 2) (pc' := 990) rfl hsc rfl (by omega) (by omega) rfl ?_
  rw [show I lmScr (i + 2) = xs (i + 2) from hxs (i + 2)]
  refine wp_aload0 (pc' := 991) rfl rfl ?_
  refine wp_iload4 (pc' := 993) rfl rfl ?_
  refine wp_iconst (v := nI 3) (pc' := 994) rfl rfl rfl ?_
  refine wp_iaddN (pc' := 995) rfl rfl rfl rfl ?_
  refine wp_iald (i + 3) (pc' := 996) rfl hsc rfl (by omega) (by omega) rfl ?_
  rw [show I lmScr (i + 3) = xs (i + 3) from hxs (i + 3)]
  refine wp_ifeq (pc' := 999) rfl rfl (fun hb => ?_) (fun hb => ?_)
  · skip
    refine wp_iconst (v := nI 0) (pc' := 1004) rfl rfl rfl ?_
    refine wp_aload3 (pc' := 1005) rfl rfl ?_
    refine wp_callS5 (pc' := 1008) rfl rfl rfl rfl rfl rfl ?_
    refine Ok.mono (Nat.le_refl _) (o_right0 h hn hs) (fun o t hA => ?_)
    obtain ⟨k, hk4, rfl, hOk, hm1, hm2, hm3⟩ := hA
    obtain ⟨K1, I1, L1, R1, n1, s1⟩ := t
    refine Cont.v ?_
    refine wp_istore5 (pc' := 1010) rfl rfl rfl ?_
    refine wp_aload2 (pc' := 1011) rfl rfl ?_
    refine wp_aload0 (pc' := 1012) rfl rfl ?_
    refine wp_iload4 (pc' := 1014) rfl rfl ?_
    refine wp_iconst (v := nI 1) (pc' := 1015) rfl rfl rfl ?_
    refine wp_iaddN (pc' := 1016) rfl rfl rfl rfl ?_
    refine wp_iald (i + 1) (pc' := 1017) rfl hm1 rfl (by omega) (by omega) rfl ?_
    rw [show I1 lmScr (i + 1) = xs (i + 1) from hm2 (i + 1)]
    refine wp_aload0 (pc' := 1018) rfl rfl ?_
    refine wp_iload4 (pc' := 1020) rfl rfl ?_
    refine wp_iconst (v := nI 2) (pc' := 1021) rfl rfl rfl ?_
    refine wp_iaddN (pc' := 1022) rfl rfl rfl rfl ?_
    refine wp_iald (i + 2) (pc' := 1023) rfl hm1 rfl (by omega) (by omega) rfl ?_
    rw [show I1 lmScr (i + 2) = xs (i + 2) from hm2 (i + 2)]
    refine wp_aload0 (pc' := 1024) rfl rfl ?_
    refine wp_iload4 (pc' := 1026) rfl rfl ?_
    refine wp_iconst (v := nI 3) (pc' := 1027) rfl rfl rfl ?_
    refine wp_iaddN (pc' := 1028) rfl rfl rfl rfl ?_
    refine wp_iald (i + 3) (pc' := 1029) rfl hm1 rfl (by omega) (by omega) rfl ?_
    rw [show I1 lmScr (i + 3) = xs (i + 3) from hm2 (i + 3)]
    refine wp_ifeqT rfl hb ?_
    refine wp_iconst (v := nI 0) (pc' := 1037) rfl rfl rfl ?_
    refine wp_callV4 (pc' := 1040) rfl rfl rfl rfl rfl hm3 rfl rfl ?_
    refine Ok.mono (Nat.le_refl _) hOk (fun o t hA => ?_)
    obtain ⟨b, rfl, hb0, hbv, hS2, hn2, hs2⟩ := hA
    obtain ⟨K2, I2, L2, R2, n2, s2⟩ := t
    have hT2 : TK K2 R2 n2 := hS2.1.1
    refine Cont.v ?_
    refine wp_istore6 (pc' := 1042) rfl rfl rfl ?_
    refine wp_aload2 (pc' := 1043) rfl rfl ?_
    refine wp_callV1 (pc' := 1046) rfl rfl rfl rfl rfl (TK.k1 hT2 rfl) rfl rfl ?_
    refine m_thrown (d := d + 39) hT2 ?_
    rw [show I2 318 0 = nI k from hb0]
    refine Cont.v ?_
    refine wp_iload5 (pc' := 1048) rfl rfl ?_
    refine wp_icmpeqT rfl rfl ?_
    refine wp_iload5 (pc' := 1055) rfl rfl ?_
    by_cases hk : k = 0
    · subst hk
      refine wp_ifneF (pc' := 1058) rfl rfl rfl ?_
      refine wp_aload3 (pc' := 1059) rfl rfl ?_
      refine wp_iconst (v := nI 0) (pc' := 1060) rfl rfl rfl ?_
      refine wp_lald 0 (pc' := 1061) rfl (TK.kk hT2 rfl) rfl (by decide) (by decide) rfl ?_
      refine wp_iload6 (pc' := 1063) rfl rfl ?_
      have hbv2 : L2 337 0 = if b = nI 0 then 0 else 1 := hbv rfl
      by_cases hz : b = nI 0
      · refine wp_ifeqT rfl hz ?_
        refine wp_lconst (v := 0) (pc' := 1071) rfl rfl rfl ?_
        refine wp_lcmp (pc' := 1072) rfl rfl ?_
        refine wp_ifeqT rfl (lg_eq (by rw [hbv2, if_pos hz])) ?_
        refine wp_goto rfl ?_
        exact kk K2 I2 L2 R2 n2 s2 _ _ rfl rfl hS2 hn2 hs2
      · refine wp_ifeqF (pc' := 1066) rfl hz rfl ?_
        refine wp_lconst (v := 1) (pc' := 1067) rfl rfl rfl ?_
        refine wp_goto rfl ?_
        refine wp_lcmp (pc' := 1072) rfl rfl ?_
        refine wp_ifeqT rfl (lg_eq (by rw [hbv2, if_neg hz])) ?_
        refine wp_goto rfl ?_
        exact kk K2 I2 L2 R2 n2 s2 _ _ rfl rfl hS2 hn2 hs2
    · refine wp_ifneT rfl (fun e => hk (eq_nI e (by omega) (by decide))) ?_
      refine wp_goto rfl ?_
      exact kk K2 I2 L2 R2 n2 s2 _ _ rfl rfl hS2 hn2 hs2
  · skip
    refine wp_iconst (v := nI 1) (pc' := 1000) rfl rfl rfl ?_
    refine wp_goto rfl ?_
    refine wp_aload3 (pc' := 1005) rfl rfl ?_
    refine wp_callS5 (pc' := 1008) rfl rfl rfl rfl rfl rfl ?_
    refine Ok.mono (Nat.le_refl _) (o_right1 h hn hs) (fun o t hA => ?_)
    obtain ⟨k, hk4, rfl, hOk, hm1, hm2, hm3⟩ := hA
    obtain ⟨K1, I1, L1, R1, n1, s1⟩ := t
    refine Cont.v ?_
    refine wp_istore5 (pc' := 1010) rfl rfl rfl ?_
    refine wp_aload2 (pc' := 1011) rfl rfl ?_
    refine wp_aload0 (pc' := 1012) rfl rfl ?_
    refine wp_iload4 (pc' := 1014) rfl rfl ?_
    refine wp_iconst (v := nI 1) (pc' := 1015) rfl rfl rfl ?_
    refine wp_iaddN (pc' := 1016) rfl rfl rfl rfl ?_
    refine wp_iald (i + 1) (pc' := 1017) rfl hm1 rfl (by omega) (by omega) rfl ?_
    rw [show I1 lmScr (i + 1) = xs (i + 1) from hm2 (i + 1)]
    refine wp_aload0 (pc' := 1018) rfl rfl ?_
    refine wp_iload4 (pc' := 1020) rfl rfl ?_
    refine wp_iconst (v := nI 2) (pc' := 1021) rfl rfl rfl ?_
    refine wp_iaddN (pc' := 1022) rfl rfl rfl rfl ?_
    refine wp_iald (i + 2) (pc' := 1023) rfl hm1 rfl (by omega) (by omega) rfl ?_
    rw [show I1 lmScr (i + 2) = xs (i + 2) from hm2 (i + 2)]
    refine wp_aload0 (pc' := 1024) rfl rfl ?_
    refine wp_iload4 (pc' := 1026) rfl rfl ?_
    refine wp_iconst (v := nI 3) (pc' := 1027) rfl rfl rfl ?_
    refine wp_iaddN (pc' := 1028) rfl rfl rfl rfl ?_
    refine wp_iald (i + 3) (pc' := 1029) rfl hm1 rfl (by omega) (by omega) rfl ?_
    rw [show I1 lmScr (i + 3) = xs (i + 3) from hm2 (i + 3)]
    refine wp_ifeqF (pc' := 1032) rfl hb rfl ?_
    refine wp_iconst (v := nI 1) (pc' := 1033) rfl rfl rfl ?_
    refine wp_goto rfl ?_
    refine wp_callV4 (pc' := 1040) rfl rfl rfl rfl rfl hm3 rfl rfl ?_
    refine Ok.mono (Nat.le_refl _) hOk (fun o t hA => ?_)
    obtain ⟨b, rfl, hb0, hbv, hS2, hn2, hs2⟩ := hA
    obtain ⟨K2, I2, L2, R2, n2, s2⟩ := t
    have hT2 : TK K2 R2 n2 := hS2.1.1
    refine Cont.v ?_
    refine wp_istore6 (pc' := 1042) rfl rfl rfl ?_
    refine wp_aload2 (pc' := 1043) rfl rfl ?_
    refine wp_callV1 (pc' := 1046) rfl rfl rfl rfl rfl (TK.k1 hT2 rfl) rfl rfl ?_
    refine m_thrown (d := d + 39) hT2 ?_
    rw [show I2 318 0 = nI k from hb0]
    refine Cont.v ?_
    refine wp_iload5 (pc' := 1048) rfl rfl ?_
    refine wp_icmpeqT rfl rfl ?_
    refine wp_iload5 (pc' := 1055) rfl rfl ?_
    by_cases hk : k = 0
    · subst hk
      refine wp_ifneF (pc' := 1058) rfl rfl rfl ?_
      refine wp_aload3 (pc' := 1059) rfl rfl ?_
      refine wp_iconst (v := nI 0) (pc' := 1060) rfl rfl rfl ?_
      refine wp_lald 0 (pc' := 1061) rfl (TK.kk hT2 rfl) rfl (by decide) (by decide) rfl ?_
      refine wp_iload6 (pc' := 1063) rfl rfl ?_
      have hbv2 : L2 337 0 = if b = nI 0 then 0 else 1 := hbv rfl
      by_cases hz : b = nI 0
      · refine wp_ifeqT rfl hz ?_
        refine wp_lconst (v := 0) (pc' := 1071) rfl rfl rfl ?_
        refine wp_lcmp (pc' := 1072) rfl rfl ?_
        refine wp_ifeqT rfl (lg_eq (by rw [hbv2, if_pos hz])) ?_
        refine wp_goto rfl ?_
        exact kk K2 I2 L2 R2 n2 s2 _ _ rfl rfl hS2 hn2 hs2
      · refine wp_ifeqF (pc' := 1066) rfl hz rfl ?_
        refine wp_lconst (v := 1) (pc' := 1067) rfl rfl rfl ?_
        refine wp_goto rfl ?_
        refine wp_lcmp (pc' := 1072) rfl rfl ?_
        refine wp_ifeqT rfl (lg_eq (by rw [hbv2, if_neg hz])) ?_
        refine wp_goto rfl ?_
        exact kk K2 I2 L2 R2 n2 s2 _ _ rfl rfl hS2 hn2 hs2
    · refine wp_ifneT rfl (fun e => hk (eq_nI e (by omega) (by decide))) ?_
      refine wp_goto rfl ?_
      exact kk K2 I2 L2 R2 n2 s2 _ _ rfl rfl hS2 hn2 hs2
theorem k_14 {N d : Nat} {xs : Nat → Int32} {K : Nat → Nat × Nat} {I : Mem} {L : Nat → Nat → Int64} {R : Nat → Nat → Option Nat} {n s i : Nat} {v5 v6 : Value} {Q : Lo → Lm → Prop} (h : Sim N xs K I L R n) (hn : n + 6 ≤ lmCells) (hs : s + 876 ≤ lmSlots) (hi : i + 6 ≤ N) (hN : N ≤ 3072) (h5 : isL v5 = false) (h6 : isL v6 = false) (kk : NxT N xs (d + 40) Q i n s) : WP (d + 40) F_369 1080 [.ref lmScr, .ref 0, .ref 318, .ref 337, .int (nI i), v5, v6] [] (K, I, L, R, n, s) Q := by
  have hsc := h.1.2.2.2.1
  have hxs := h.1.2.2.2.2.1.1
  have hT := h.1.1
  refine wp_aload1 (pc' := 1081) rfl rfl ?_
  refine wp_aload0 (pc' := 1082) rfl rfl ?_
  refine wp_iload4 (pc' := 1084) rfl rfl ?_
  refine wp_iconst (v := nI 1) (pc' := 1085) rfl rfl rfl ?_
  refine wp_iaddN (pc' := 1086) rfl rfl rfl rfl ?_
  refine wp_iald (i + 1) (pc' := 1087) rfl hsc rfl (by omega) (by omega) rfl ?_
  rw [show I lmScr (i + 1) = xs (i + 1) from hxs (i + 1)]
  refine wp_aload0 (pc' := 1088) rfl rfl ?_
  refine wp_iload4 (pc' := 1090) rfl rfl ?_
  refine wp_iconst (v := nI 2) (pc' := 1091) rfl rfl rfl ?_
  refine wp_iaddN (pc' := 1092) rfl rfl rfl rfl ?_
  refine wp_iald (i + 2) (pc' := 1093) rfl hsc rfl (by omega) (by omega) rfl ?_
  rw [show I lmScr (i + 2) = xs (i + 2) from hxs (i + 2)]
  refine wp_aload0 (pc' := 1094) rfl rfl ?_
  refine wp_iload4 (pc' := 1096) rfl rfl ?_
  refine wp_iconst (v := nI 3) (pc' := 1097) rfl rfl rfl ?_
  refine wp_iaddN (pc' := 1098) rfl rfl rfl rfl ?_
  refine wp_iald (i + 3) (pc' := 1099) rfl hsc rfl (by omega) (by omega) rfl ?_
  rw [show I lmScr (i + 3) = xs (i + 3) from hxs (i + 3)]
  refine wp_aload3 (pc' := 1100) rfl rfl ?_
  refine wp_callS5 (pc' := 1103) rfl rfl rfl rfl rfl rfl ?_
  refine Ok.mono (Nat.le_refl _) (o_trade h hn hs) (fun o t hA => ?_)
  obtain ⟨k, hk4, rfl, hOk, hm1, hm2, hm3⟩ := hA
  obtain ⟨K1, I1, L1, R1, n1, s1⟩ := t
  refine Cont.v ?_
  refine wp_istore5 (pc' := 1105) rfl rfl rfl ?_
  refine wp_aload2 (pc' := 1106) rfl rfl ?_
  refine wp_aload0 (pc' := 1107) rfl rfl ?_
  refine wp_iload4 (pc' := 1109) rfl rfl ?_
  refine wp_iconst (v := nI 1) (pc' := 1110) rfl rfl rfl ?_
  refine wp_iaddN (pc' := 1111) rfl rfl rfl rfl ?_
  refine wp_iald (i + 1) (pc' := 1112) rfl hm1 rfl (by omega) (by omega) rfl ?_
  rw [show I1 lmScr (i + 1) = xs (i + 1) from hm2 (i + 1)]
  refine wp_aload0 (pc' := 1113) rfl rfl ?_
  refine wp_iload4 (pc' := 1115) rfl rfl ?_
  refine wp_iconst (v := nI 2) (pc' := 1116) rfl rfl rfl ?_
  refine wp_iaddN (pc' := 1117) rfl rfl rfl rfl ?_
  refine wp_iald (i + 2) (pc' := 1118) rfl hm1 rfl (by omega) (by omega) rfl ?_
  rw [show I1 lmScr (i + 2) = xs (i + 2) from hm2 (i + 2)]
  refine wp_aload0 (pc' := 1119) rfl rfl ?_
  refine wp_iload4 (pc' := 1121) rfl rfl ?_
  refine wp_iconst (v := nI 3) (pc' := 1122) rfl rfl rfl ?_
  refine wp_iaddN (pc' := 1123) rfl rfl rfl rfl ?_
  refine wp_iald (i + 3) (pc' := 1124) rfl hm1 rfl (by omega) (by omega) rfl ?_
  rw [show I1 lmScr (i + 3) = xs (i + 3) from hm2 (i + 3)]
  refine wp_callV4 (pc' := 1127) rfl rfl rfl rfl rfl hm3 rfl rfl ?_
  refine Ok.mono (Nat.le_refl _) hOk (fun o t hA => ?_)
  obtain ⟨b, rfl, hb0, hbv, hS2, hn2, hs2⟩ := hA
  obtain ⟨K2, I2, L2, R2, n2, s2⟩ := t
  have hT2 : TK K2 R2 n2 := hS2.1.1
  refine Cont.v ?_
  refine wp_istore6 (pc' := 1129) rfl rfl rfl ?_
  refine wp_aload2 (pc' := 1130) rfl rfl ?_
  refine wp_callV1 (pc' := 1133) rfl rfl rfl rfl rfl (TK.k1 hT2 rfl) rfl rfl ?_
  refine m_thrown (d := d + 39) hT2 ?_
  rw [show I2 318 0 = nI k from hb0]
  refine Cont.v ?_
  refine wp_iload5 (pc' := 1135) rfl rfl ?_
  refine wp_icmpeqT rfl rfl ?_
  refine wp_iload5 (pc' := 1142) rfl rfl ?_
  by_cases hk : k = 0
  · subst hk
    refine wp_ifneF (pc' := 1145) rfl rfl rfl ?_
    refine wp_aload3 (pc' := 1146) rfl rfl ?_
    refine wp_iconst (v := nI 0) (pc' := 1147) rfl rfl rfl ?_
    refine wp_lald 0 (pc' := 1148) rfl (TK.kk hT2 rfl) rfl (by decide) (by decide) rfl ?_
    refine wp_iload6 (pc' := 1150) rfl rfl ?_
    refine wp_i2l (pc' := 1151) rfl rfl ?_
    refine wp_lcmp (pc' := 1152) rfl rfl ?_
    refine wp_ifeqT rfl (lg_eq (hbv rfl)) ?_
    refine wp_goto rfl ?_
    exact kk K2 I2 L2 R2 n2 s2 _ _ rfl rfl hS2 hn2 hs2
  · refine wp_ifneT rfl (fun e => hk (eq_nI e (by omega) (by decide))) ?_
    refine wp_goto rfl ?_
    exact kk K2 I2 L2 R2 n2 s2 _ _ rfl rfl hS2 hn2 hs2
theorem k_15 {N d : Nat} {xs : Nat → Int32} {K : Nat → Nat × Nat} {I : Mem} {L : Nat → Nat → Int64} {R : Nat → Nat → Option Nat} {n s i : Nat} {v5 v6 : Value} {Q : Lo → Lm → Prop} (h : Sim N xs K I L R n) (hn : n + 6 ≤ lmCells) (hs : s + 876 ≤ lmSlots) (hi : i + 6 ≤ N) (hN : N ≤ 3072) (h5 : isL v5 = false) (h6 : isL v6 = false) (kk : NxT N xs (d + 40) Q i n s) : WP (d + 40) F_369 1160 [.ref lmScr, .ref 0, .ref 318, .ref 337, .int (nI i), v5, v6] [] (K, I, L, R, n, s) Q := by
  have hsc := h.1.2.2.2.1
  have hxs := h.1.2.2.2.2.1.1
  have hT := h.1.1
  refine wp_aload1 (pc' := 1161) rfl rfl ?_
  refine wp_aload0 (pc' := 1162) rfl rfl ?_
  refine wp_iload4 (pc' := 1164) rfl rfl ?_
  refine wp_iconst (v := nI 1) (pc' := 1165) rfl rfl rfl ?_
  refine wp_iaddN (pc' := 1166) rfl rfl rfl rfl ?_
  refine wp_iald (i + 1) (pc' := 1167) rfl hsc rfl (by omega) (by omega) rfl ?_
  rw [show I lmScr (i + 1) = xs (i + 1) from hxs (i + 1)]
  refine wp_aload0 (pc' := 1168) rfl rfl ?_
  refine wp_iload4 (pc' := 1170) rfl rfl ?_
  refine wp_iconst (v := nI 2) (pc' := 1171) rfl rfl rfl ?_
  refine wp_iaddN (pc' := 1172) rfl rfl rfl rfl ?_
  refine wp_iald (i + 2) (pc' := 1173) rfl hsc rfl (by omega) (by omega) rfl ?_
  rw [show I lmScr (i + 2) = xs (i + 2) from hxs (i + 2)]
  refine wp_ifeq (pc' := 1176) rfl rfl (fun hb => ?_) (fun hb => ?_)
  · skip
    refine wp_iconst (v := nI 0) (pc' := 1181) rfl rfl rfl ?_
    refine wp_aload3 (pc' := 1182) rfl rfl ?_
    refine wp_callS4 (pc' := 1185) rfl rfl rfl rfl rfl rfl ?_
    refine Ok.mono (Nat.le_refl _) (o_sky0 h hn hs) (fun o t hA => ?_)
    obtain ⟨k, hk4, rfl, hOk, hm1, hm2, hm3⟩ := hA
    obtain ⟨K1, I1, L1, R1, n1, s1⟩ := t
    refine Cont.v ?_
    refine wp_istore5 (pc' := 1187) rfl rfl rfl ?_
    refine wp_aload2 (pc' := 1188) rfl rfl ?_
    refine wp_aload0 (pc' := 1189) rfl rfl ?_
    refine wp_iload4 (pc' := 1191) rfl rfl ?_
    refine wp_iconst (v := nI 1) (pc' := 1192) rfl rfl rfl ?_
    refine wp_iaddN (pc' := 1193) rfl rfl rfl rfl ?_
    refine wp_iald (i + 1) (pc' := 1194) rfl hm1 rfl (by omega) (by omega) rfl ?_
    rw [show I1 lmScr (i + 1) = xs (i + 1) from hm2 (i + 1)]
    refine wp_aload0 (pc' := 1195) rfl rfl ?_
    refine wp_iload4 (pc' := 1197) rfl rfl ?_
    refine wp_iconst (v := nI 2) (pc' := 1198) rfl rfl rfl ?_
    refine wp_iaddN (pc' := 1199) rfl rfl rfl rfl ?_
    refine wp_iald (i + 2) (pc' := 1200) rfl hm1 rfl (by omega) (by omega) rfl ?_
    rw [show I1 lmScr (i + 2) = xs (i + 2) from hm2 (i + 2)]
    refine wp_ifeqT rfl hb ?_
    refine wp_iconst (v := nI 0) (pc' := 1208) rfl rfl rfl ?_
    refine wp_callV3 (pc' := 1211) rfl rfl rfl rfl rfl hm3 rfl rfl ?_
    refine Ok.mono (Nat.le_refl _) hOk (fun o t hA => ?_)
    obtain ⟨b, rfl, hb0, hbv, hS2, hn2, hs2⟩ := hA
    obtain ⟨K2, I2, L2, R2, n2, s2⟩ := t
    have hT2 : TK K2 R2 n2 := hS2.1.1
    refine Cont.v ?_
    refine wp_istore6 (pc' := 1213) rfl rfl rfl ?_
    refine wp_aload2 (pc' := 1214) rfl rfl ?_
    refine wp_callV1 (pc' := 1217) rfl rfl rfl rfl rfl (TK.k1 hT2 rfl) rfl rfl ?_
    refine m_thrown (d := d + 39) hT2 ?_
    rw [show I2 318 0 = nI k from hb0]
    refine Cont.v ?_
    refine wp_iload5 (pc' := 1219) rfl rfl ?_
    refine wp_icmpeqT rfl rfl ?_
    refine wp_iload5 (pc' := 1226) rfl rfl ?_
    by_cases hk : k = 0
    · subst hk
      refine wp_ifneF (pc' := 1229) rfl rfl rfl ?_
      refine wp_aload3 (pc' := 1230) rfl rfl ?_
      refine wp_iconst (v := nI 0) (pc' := 1231) rfl rfl rfl ?_
      refine wp_lald 0 (pc' := 1232) rfl (TK.kk hT2 rfl) rfl (by decide) (by decide) rfl ?_
      refine wp_iload6 (pc' := 1234) rfl rfl ?_
      refine wp_i2l (pc' := 1235) rfl rfl ?_
      refine wp_lcmp (pc' := 1236) rfl rfl ?_
      refine wp_ifeqT rfl (lg_eq (hbv rfl)) ?_
      refine wp_goto rfl ?_
      exact kk K2 I2 L2 R2 n2 s2 _ _ rfl rfl hS2 hn2 hs2
    · refine wp_ifneT rfl (fun e => hk (eq_nI e (by omega) (by decide))) ?_
      refine wp_goto rfl ?_
      exact kk K2 I2 L2 R2 n2 s2 _ _ rfl rfl hS2 hn2 hs2
  · skip
    refine wp_iconst (v := nI 1) (pc' := 1177) rfl rfl rfl ?_
    refine wp_goto rfl ?_
    refine wp_aload3 (pc' := 1182) rfl rfl ?_
    refine wp_callS4 (pc' := 1185) rfl rfl rfl rfl rfl rfl ?_
    refine Ok.mono (Nat.le_refl _) (o_sky1 h hn hs) (fun o t hA => ?_)
    obtain ⟨k, hk4, rfl, hOk, hm1, hm2, hm3⟩ := hA
    obtain ⟨K1, I1, L1, R1, n1, s1⟩ := t
    refine Cont.v ?_
    refine wp_istore5 (pc' := 1187) rfl rfl rfl ?_
    refine wp_aload2 (pc' := 1188) rfl rfl ?_
    refine wp_aload0 (pc' := 1189) rfl rfl ?_
    refine wp_iload4 (pc' := 1191) rfl rfl ?_
    refine wp_iconst (v := nI 1) (pc' := 1192) rfl rfl rfl ?_
    refine wp_iaddN (pc' := 1193) rfl rfl rfl rfl ?_
    refine wp_iald (i + 1) (pc' := 1194) rfl hm1 rfl (by omega) (by omega) rfl ?_
    rw [show I1 lmScr (i + 1) = xs (i + 1) from hm2 (i + 1)]
    refine wp_aload0 (pc' := 1195) rfl rfl ?_
    refine wp_iload4 (pc' := 1197) rfl rfl ?_
    refine wp_iconst (v := nI 2) (pc' := 1198) rfl rfl rfl ?_
    refine wp_iaddN (pc' := 1199) rfl rfl rfl rfl ?_
    refine wp_iald (i + 2) (pc' := 1200) rfl hm1 rfl (by omega) (by omega) rfl ?_
    rw [show I1 lmScr (i + 2) = xs (i + 2) from hm2 (i + 2)]
    refine wp_ifeqF (pc' := 1203) rfl hb rfl ?_
    refine wp_iconst (v := nI 1) (pc' := 1204) rfl rfl rfl ?_
    refine wp_goto rfl ?_
    refine wp_callV3 (pc' := 1211) rfl rfl rfl rfl rfl hm3 rfl rfl ?_
    refine Ok.mono (Nat.le_refl _) hOk (fun o t hA => ?_)
    obtain ⟨b, rfl, hb0, hbv, hS2, hn2, hs2⟩ := hA
    obtain ⟨K2, I2, L2, R2, n2, s2⟩ := t
    have hT2 : TK K2 R2 n2 := hS2.1.1
    refine Cont.v ?_
    refine wp_istore6 (pc' := 1213) rfl rfl rfl ?_
    refine wp_aload2 (pc' := 1214) rfl rfl ?_
    refine wp_callV1 (pc' := 1217) rfl rfl rfl rfl rfl (TK.k1 hT2 rfl) rfl rfl ?_
    refine m_thrown (d := d + 39) hT2 ?_
    rw [show I2 318 0 = nI k from hb0]
    refine Cont.v ?_
    refine wp_iload5 (pc' := 1219) rfl rfl ?_
    refine wp_icmpeqT rfl rfl ?_
    refine wp_iload5 (pc' := 1226) rfl rfl ?_
    by_cases hk : k = 0
    · subst hk
      refine wp_ifneF (pc' := 1229) rfl rfl rfl ?_
      refine wp_aload3 (pc' := 1230) rfl rfl ?_
      refine wp_iconst (v := nI 0) (pc' := 1231) rfl rfl rfl ?_
      refine wp_lald 0 (pc' := 1232) rfl (TK.kk hT2 rfl) rfl (by decide) (by decide) rfl ?_
      refine wp_iload6 (pc' := 1234) rfl rfl ?_
      refine wp_i2l (pc' := 1235) rfl rfl ?_
      refine wp_lcmp (pc' := 1236) rfl rfl ?_
      refine wp_ifeqT rfl (lg_eq (hbv rfl)) ?_
      refine wp_goto rfl ?_
      exact kk K2 I2 L2 R2 n2 s2 _ _ rfl rfl hS2 hn2 hs2
    · refine wp_ifneT rfl (fun e => hk (eq_nI e (by omega) (by decide))) ?_
      refine wp_goto rfl ?_
      exact kk K2 I2 L2 R2 n2 s2 _ _ rfl rfl hS2 hn2 hs2
theorem k_16 {N d : Nat} {xs : Nat → Int32} {K : Nat → Nat × Nat} {I : Mem} {L : Nat → Nat → Int64} {R : Nat → Nat → Option Nat} {n s i : Nat} {v5 v6 : Value} {Q : Lo → Lm → Prop} (h : Sim N xs K I L R n) (hn : n + 6 ≤ lmCells) (hs : s + 876 ≤ lmSlots) (hi : i + 6 ≤ N) (hN : N ≤ 3072) (h5 : isL v5 = false) (h6 : isL v6 = false) (kk : NxT N xs (d + 40) Q i n s) : WP (d + 40) F_369 1244 [.ref lmScr, .ref 0, .ref 318, .ref 337, .int (nI i), v5, v6] [] (K, I, L, R, n, s) Q := by
  have hsc := h.1.2.2.2.1
  have hxs := h.1.2.2.2.2.1.1
  have hT := h.1.1
  refine wp_aload1 (pc' := 1245) rfl rfl ?_
  refine wp_callV1 (pc' := 1248) rfl rfl rfl rfl rfl (TK.k1 hT rfl) rfl rfl ?_
  refine Ok.mono (Nat.le_refl _) (o_drained h) (fun o t hA => ?_)
  obtain ⟨v, rfl, hOk, hm1, hm2, hm3⟩ := hA
  obtain ⟨K1, I1, L1, R1, n1, s1⟩ := t
  refine Cont.v ?_
  refine wp_aload2 (pc' := 1249) rfl rfl ?_
  refine wp_callV1 (pc' := 1252) rfl rfl rfl rfl rfl hm3 rfl rfl ?_
  refine Ok.mono (Nat.le_refl _) hOk (fun o t hA => ?_)
  obtain ⟨rfl, hS2, hn2, hs2⟩ := hA
  obtain ⟨K2, I2, L2, R2, n2, s2⟩ := t
  refine Cont.v ?_
  refine wp_icmpeqT rfl rfl ?_
  exact kk K2 I2 L2 R2 n2 s2 _ _ h5 h6 hS2 hn2 hs2
theorem k_17 {N d : Nat} {xs : Nat → Int32} {K : Nat → Nat × Nat} {I : Mem} {L : Nat → Nat → Int64} {R : Nat → Nat → Option Nat} {n s i : Nat} {v5 v6 : Value} {Q : Lo → Lm → Prop} (h : Sim N xs K I L R n) (hn : n + 6 ≤ lmCells) (hs : s + 876 ≤ lmSlots) (hi : i + 6 ≤ N) (hN : N ≤ 3072) (h5 : isL v5 = false) (h6 : isL v6 = false) (kk : NxT N xs (d + 40) Q i n s) : WP (d + 40) F_369 1257 [.ref lmScr, .ref 0, .ref 318, .ref 337, .int (nI i), v5, v6] [] (K, I, L, R, n, s) Q := by
  have hsc := h.1.2.2.2.1
  have hxs := h.1.2.2.2.2.1.1
  have hT := h.1.1
  refine wp_aload1 (pc' := 1258) rfl rfl ?_
  refine wp_callV1 (pc' := 1261) rfl rfl rfl rfl rfl (TK.k1 hT rfl) rfl rfl ?_
  refine Ok.mono (Nat.le_refl _) (o_open h) (fun o t hA => ?_)
  obtain ⟨v, rfl, hOk, hm1, hm2, hm3⟩ := hA
  obtain ⟨K1, I1, L1, R1, n1, s1⟩ := t
  refine Cont.v ?_
  refine wp_aload2 (pc' := 1262) rfl rfl ?_
  refine wp_callV1 (pc' := 1265) rfl rfl rfl rfl rfl hm3 rfl rfl ?_
  refine Ok.mono (Nat.le_refl _) hOk (fun o t hA => ?_)
  obtain ⟨rfl, hS2, hn2, hs2⟩ := hA
  obtain ⟨K2, I2, L2, R2, n2, s2⟩ := t
  refine Cont.v ?_
  refine wp_icmpeqT rfl rfl ?_
  exact kk K2 I2 L2 R2 n2 s2 _ _ h5 h6 hS2 hn2 hs2
theorem k_18 {N d : Nat} {xs : Nat → Int32} {K : Nat → Nat × Nat} {I : Mem} {L : Nat → Nat → Int64} {R : Nat → Nat → Option Nat} {n s i : Nat} {v5 v6 : Value} {Q : Lo → Lm → Prop} (h : Sim N xs K I L R n) (hn : n + 6 ≤ lmCells) (hs : s + 876 ≤ lmSlots) (hi : i + 6 ≤ N) (hN : N ≤ 3072) (h5 : isL v5 = false) (h6 : isL v6 = false) (kk : NxT N xs (d + 40) Q i n s) : WP (d + 40) F_369 1270 [.ref lmScr, .ref 0, .ref 318, .ref 337, .int (nI i), v5, v6] [] (K, I, L, R, n, s) Q := by
  have hsc := h.1.2.2.2.1
  have hxs := h.1.2.2.2.2.1.1
  have hT := h.1.1
  refine wp_aload1 (pc' := 1271) rfl rfl ?_
  refine wp_aload3 (pc' := 1272) rfl rfl ?_
  refine wp_callS2 (pc' := 1275) rfl rfl rfl rfl rfl rfl ?_
  refine Ok.mono (Nat.le_refl _) (o_net h hn hs) (fun o t hA => ?_)
  obtain ⟨k, hk4, rfl, hOk, hm1, hm2, hm3⟩ := hA
  obtain ⟨K1, I1, L1, R1, n1, s1⟩ := t
  refine Cont.v ?_
  refine wp_istore5 (pc' := 1277) rfl rfl rfl ?_
  refine wp_aload2 (pc' := 1278) rfl rfl ?_
  refine wp_callV1 (pc' := 1281) rfl rfl rfl rfl rfl hm3 rfl rfl ?_
  refine Ok.mono (Nat.le_refl _) hOk (fun o t hA => ?_)
  obtain ⟨b, rfl, hb0, hbv, hS2, hn2, hs2⟩ := hA
  obtain ⟨K2, I2, L2, R2, n2, s2⟩ := t
  have hT2 : TK K2 R2 n2 := hS2.1.1
  refine Cont.v ?_
  refine wp_istore6 (pc' := 1283) rfl rfl rfl ?_
  refine wp_aload2 (pc' := 1284) rfl rfl ?_
  refine wp_callV1 (pc' := 1287) rfl rfl rfl rfl rfl (TK.k1 hT2 rfl) rfl rfl ?_
  refine m_thrown (d := d + 39) hT2 ?_
  rw [show I2 318 0 = nI k from hb0]
  refine Cont.v ?_
  refine wp_iload5 (pc' := 1289) rfl rfl ?_
  refine wp_icmpeqT rfl rfl ?_
  refine wp_iload5 (pc' := 1296) rfl rfl ?_
  by_cases hk : k = 0
  · subst hk
    refine wp_ifneF (pc' := 1299) rfl rfl rfl ?_
    refine wp_aload3 (pc' := 1300) rfl rfl ?_
    refine wp_iconst (v := nI 0) (pc' := 1301) rfl rfl rfl ?_
    refine wp_lald 0 (pc' := 1302) rfl (TK.kk hT2 rfl) rfl (by decide) (by decide) rfl ?_
    refine wp_iload6 (pc' := 1304) rfl rfl ?_
    refine wp_i2l (pc' := 1305) rfl rfl ?_
    refine wp_lcmp (pc' := 1306) rfl rfl ?_
    refine wp_ifeqT rfl (lg_eq (hbv rfl)) ?_
    refine wp_goto rfl ?_
    exact kk K2 I2 L2 R2 n2 s2 _ _ rfl rfl hS2 hn2 hs2
  · refine wp_ifneT rfl (fun e => hk (eq_nI e (by omega) (by decide))) ?_
    refine wp_goto rfl ?_
    exact kk K2 I2 L2 R2 n2 s2 _ _ rfl rfl hS2 hn2 hs2
theorem k_19 {N d : Nat} {xs : Nat → Int32} {K : Nat → Nat × Nat} {I : Mem} {L : Nat → Nat → Int64} {R : Nat → Nat → Option Nat} {n s i : Nat} {v5 v6 : Value} {Q : Lo → Lm → Prop} (h : Sim N xs K I L R n) (hn : n + 6 ≤ lmCells) (hs : s + 876 ≤ lmSlots) (hi : i + 6 ≤ N) (hN : N ≤ 3072) (h5 : isL v5 = false) (h6 : isL v6 = false) (kk : NxT N xs (d + 40) Q i n s) : WP (d + 40) F_369 1314 [.ref lmScr, .ref 0, .ref 318, .ref 337, .int (nI i), v5, v6] [] (K, I, L, R, n, s) Q := by
  have hsc := h.1.2.2.2.1
  have hxs := h.1.2.2.2.2.1.1
  have hT := h.1.1
  refine wp_aload1 (pc' := 1315) rfl rfl ?_
  refine wp_callV1 (pc' := 1318) rfl rfl rfl rfl rfl (TK.k1 hT rfl) rfl rfl ?_
  refine Ok.mono (Nat.le_refl _) (o_flood h) (fun o t hA => ?_)
  obtain ⟨v, rfl, hOk, hm1, hm2, hm3⟩ := hA
  obtain ⟨K1, I1, L1, R1, n1, s1⟩ := t
  refine Cont.v ?_
  refine wp_aload2 (pc' := 1319) rfl rfl ?_
  refine wp_callV1 (pc' := 1322) rfl rfl rfl rfl rfl hm3 rfl rfl ?_
  refine Ok.mono (Nat.le_refl _) hOk (fun o t hA => ?_)
  obtain ⟨rfl, hS2, hn2, hs2⟩ := hA
  obtain ⟨K2, I2, L2, R2, n2, s2⟩ := t
  refine Cont.v ?_
  refine wp_icmpeqT rfl rfl ?_
  exact kk K2 I2 L2 R2 n2 s2 _ _ h5 h6 hS2 hn2 hs2
theorem k_20 {N d : Nat} {xs : Nat → Int32} {K : Nat → Nat × Nat} {I : Mem} {L : Nat → Nat → Int64} {R : Nat → Nat → Option Nat} {n s i : Nat} {v5 v6 : Value} {Q : Lo → Lm → Prop} (h : Sim N xs K I L R n) (hn : n + 6 ≤ lmCells) (hs : s + 876 ≤ lmSlots) (hi : i + 6 ≤ N) (hN : N ≤ 3072) (h5 : isL v5 = false) (h6 : isL v6 = false) (kk : NxT N xs (d + 40) Q i n s) : WP (d + 40) F_369 1327 [.ref lmScr, .ref 0, .ref 318, .ref 337, .int (nI i), v5, v6] [] (K, I, L, R, n, s) Q := by
  have hsc := h.1.2.2.2.1
  have hxs := h.1.2.2.2.2.1.1
  have hT := h.1.1
  refine wp_aload1 (pc' := 1328) rfl rfl ?_
  refine wp_aload3 (pc' := 1329) rfl rfl ?_
  refine wp_callS2 (pc' := 1332) rfl rfl rfl rfl rfl rfl ?_
  refine Ok.mono (Nat.le_refl _) (o_trunks h hn hs) (fun o t hA => ?_)
  obtain ⟨k, hk4, rfl, hOk, hm1, hm2, hm3⟩ := hA
  obtain ⟨K1, I1, L1, R1, n1, s1⟩ := t
  refine Cont.v ?_
  refine wp_istore5 (pc' := 1334) rfl rfl rfl ?_
  refine wp_aload2 (pc' := 1335) rfl rfl ?_
  refine wp_callV1 (pc' := 1338) rfl rfl rfl rfl rfl hm3 rfl rfl ?_
  refine Ok.mono (Nat.le_refl _) hOk (fun o t hA => ?_)
  obtain ⟨b, rfl, hb0, hbv, hS2, hn2, hs2⟩ := hA
  obtain ⟨K2, I2, L2, R2, n2, s2⟩ := t
  have hT2 : TK K2 R2 n2 := hS2.1.1
  refine Cont.v ?_
  refine wp_istore6 (pc' := 1340) rfl rfl rfl ?_
  refine wp_aload2 (pc' := 1341) rfl rfl ?_
  refine wp_callV1 (pc' := 1344) rfl rfl rfl rfl rfl (TK.k1 hT2 rfl) rfl rfl ?_
  refine m_thrown (d := d + 39) hT2 ?_
  rw [show I2 318 0 = nI k from hb0]
  refine Cont.v ?_
  refine wp_iload5 (pc' := 1346) rfl rfl ?_
  refine wp_icmpeqT rfl rfl ?_
  refine wp_iload5 (pc' := 1353) rfl rfl ?_
  by_cases hk : k = 0
  · subst hk
    refine wp_ifneF (pc' := 1356) rfl rfl rfl ?_
    refine wp_aload3 (pc' := 1357) rfl rfl ?_
    refine wp_iconst (v := nI 0) (pc' := 1358) rfl rfl rfl ?_
    refine wp_lald 0 (pc' := 1359) rfl (TK.kk hT2 rfl) rfl (by decide) (by decide) rfl ?_
    refine wp_iload6 (pc' := 1361) rfl rfl ?_
    refine wp_i2l (pc' := 1362) rfl rfl ?_
    refine wp_lcmp (pc' := 1363) rfl rfl ?_
    refine wp_ifeqT rfl (lg_eq (hbv rfl)) ?_
    refine wp_goto rfl ?_
    exact kk K2 I2 L2 R2 n2 s2 _ _ rfl rfl hS2 hn2 hs2
  · refine wp_ifneT rfl (fun e => hk (eq_nI e (by omega) (by decide))) ?_
    refine wp_goto rfl ?_
    exact kk K2 I2 L2 R2 n2 s2 _ _ rfl rfl hS2 hn2 hs2
theorem k_21 {N d : Nat} {xs : Nat → Int32} {K : Nat → Nat × Nat} {I : Mem} {L : Nat → Nat → Int64} {R : Nat → Nat → Option Nat} {n s i : Nat} {v5 v6 : Value} {Q : Lo → Lm → Prop} (h : Sim N xs K I L R n) (hn : n + 6 ≤ lmCells) (hs : s + 876 ≤ lmSlots) (hi : i + 6 ≤ N) (hN : N ≤ 3072) (h5 : isL v5 = false) (h6 : isL v6 = false) (kk : NxT N xs (d + 40) Q i n s) : WP (d + 40) F_369 1371 [.ref lmScr, .ref 0, .ref 318, .ref 337, .int (nI i), v5, v6] [] (K, I, L, R, n, s) Q := by
  have hsc := h.1.2.2.2.1
  have hxs := h.1.2.2.2.2.1.1
  have hT := h.1.1
  refine wp_aload1 (pc' := 1372) rfl rfl ?_
  refine wp_aload3 (pc' := 1373) rfl rfl ?_
  refine wp_callS2 (pc' := 1376) rfl rfl rfl rfl rfl rfl ?_
  refine Ok.mono (Nat.le_refl _) (o_likely h hn hs) (fun o t hA => ?_)
  obtain ⟨k, hk4, rfl, hOk, hm1, hm2, hm3⟩ := hA
  obtain ⟨K1, I1, L1, R1, n1, s1⟩ := t
  refine Cont.v ?_
  refine wp_istore5 (pc' := 1378) rfl rfl rfl ?_
  refine wp_aload2 (pc' := 1379) rfl rfl ?_
  refine wp_callV1 (pc' := 1382) rfl rfl rfl rfl rfl hm3 rfl rfl ?_
  refine Ok.mono (Nat.le_refl _) hOk (fun o t hA => ?_)
  obtain ⟨b, rfl, hb0, hbv, hS2, hn2, hs2⟩ := hA
  obtain ⟨K2, I2, L2, R2, n2, s2⟩ := t
  have hT2 : TK K2 R2 n2 := hS2.1.1
  refine Cont.v ?_
  refine wp_istore6 (pc' := 1384) rfl rfl rfl ?_
  refine wp_aload2 (pc' := 1385) rfl rfl ?_
  refine wp_callV1 (pc' := 1388) rfl rfl rfl rfl rfl (TK.k1 hT2 rfl) rfl rfl ?_
  refine m_thrown (d := d + 39) hT2 ?_
  rw [show I2 318 0 = nI k from hb0]
  refine Cont.v ?_
  refine wp_iload5 (pc' := 1390) rfl rfl ?_
  refine wp_icmpeqT rfl rfl ?_
  refine wp_iload5 (pc' := 1397) rfl rfl ?_
  by_cases hk : k = 0
  · subst hk
    refine wp_ifneF (pc' := 1400) rfl rfl rfl ?_
    refine wp_aload3 (pc' := 1401) rfl rfl ?_
    refine wp_iconst (v := nI 0) (pc' := 1402) rfl rfl rfl ?_
    refine wp_lald 0 (pc' := 1403) rfl (TK.kk hT2 rfl) rfl (by decide) (by decide) rfl ?_
    refine wp_iload6 (pc' := 1405) rfl rfl ?_
    refine wp_i2l (pc' := 1406) rfl rfl ?_
    refine wp_lcmp (pc' := 1407) rfl rfl ?_
    refine wp_ifeqT rfl (lg_eq (hbv rfl)) ?_
    refine wp_goto rfl ?_
    exact kk K2 I2 L2 R2 n2 s2 _ _ rfl rfl hS2 hn2 hs2
  · refine wp_ifneT rfl (fun e => hk (eq_nI e (by omega) (by decide))) ?_
    refine wp_goto rfl ?_
    exact kk K2 I2 L2 R2 n2 s2 _ _ rfl rfl hS2 hn2 hs2
theorem k_22 {N d : Nat} {xs : Nat → Int32} {K : Nat → Nat × Nat} {I : Mem} {L : Nat → Nat → Int64} {R : Nat → Nat → Option Nat} {n s i : Nat} {v5 v6 : Value} {Q : Lo → Lm → Prop} (h : Sim N xs K I L R n) (hn : n + 6 ≤ lmCells) (hs : s + 876 ≤ lmSlots) (hi : i + 6 ≤ N) (hN : N ≤ 3072) (h5 : isL v5 = false) (h6 : isL v6 = false) (kk : NxT N xs (d + 40) Q i n s) : WP (d + 40) F_369 1415 [.ref lmScr, .ref 0, .ref 318, .ref 337, .int (nI i), v5, v6] [] (K, I, L, R, n, s) Q := by
  have hsc := h.1.2.2.2.1
  have hxs := h.1.2.2.2.2.1.1
  have hT := h.1.1
  refine wp_aload1 (pc' := 1416) rfl rfl ?_
  refine wp_aload3 (pc' := 1417) rfl rfl ?_
  refine wp_callS2 (pc' := 1420) rfl rfl rfl rfl rfl rfl ?_
  refine Ok.mono (Nat.le_refl _) (o_probe h hn hs) (fun o t hA => ?_)
  obtain ⟨k, hk4, rfl, hOk, hm1, hm2, hm3⟩ := hA
  obtain ⟨K1, I1, L1, R1, n1, s1⟩ := t
  refine Cont.v ?_
  refine wp_istore5 (pc' := 1422) rfl rfl rfl ?_
  refine wp_aload2 (pc' := 1423) rfl rfl ?_
  refine wp_callV1 (pc' := 1426) rfl rfl rfl rfl rfl hm3 rfl rfl ?_
  refine Ok.mono (Nat.le_refl _) hOk (fun o t hA => ?_)
  obtain ⟨b, rfl, hb0, hbv, hS2, hn2, hs2⟩ := hA
  obtain ⟨K2, I2, L2, R2, n2, s2⟩ := t
  have hT2 : TK K2 R2 n2 := hS2.1.1
  refine Cont.v ?_
  refine wp_istore6 (pc' := 1428) rfl rfl rfl ?_
  refine wp_aload2 (pc' := 1429) rfl rfl ?_
  refine wp_callV1 (pc' := 1432) rfl rfl rfl rfl rfl (TK.k1 hT2 rfl) rfl rfl ?_
  refine m_thrown (d := d + 39) hT2 ?_
  rw [show I2 318 0 = nI k from hb0]
  refine Cont.v ?_
  refine wp_iload5 (pc' := 1434) rfl rfl ?_
  refine wp_icmpeqT rfl rfl ?_
  refine wp_iload5 (pc' := 1441) rfl rfl ?_
  by_cases hk : k = 0
  · subst hk
    refine wp_ifneF (pc' := 1444) rfl rfl rfl ?_
    refine wp_aload3 (pc' := 1445) rfl rfl ?_
    refine wp_iconst (v := nI 0) (pc' := 1446) rfl rfl rfl ?_
    refine wp_lald 0 (pc' := 1447) rfl (TK.kk hT2 rfl) rfl (by decide) (by decide) rfl ?_
    refine wp_iload6 (pc' := 1449) rfl rfl ?_
    refine wp_i2l (pc' := 1450) rfl rfl ?_
    refine wp_lcmp (pc' := 1451) rfl rfl ?_
    refine wp_ifeqT rfl (lg_eq (hbv rfl)) ?_
    refine wp_goto rfl ?_
    exact kk K2 I2 L2 R2 n2 s2 _ _ rfl rfl hS2 hn2 hs2
  · refine wp_ifneT rfl (fun e => hk (eq_nI e (by omega) (by decide))) ?_
    refine wp_goto rfl ?_
    exact kk K2 I2 L2 R2 n2 s2 _ _ rfl rfl hS2 hn2 hs2
theorem k_23 {N d : Nat} {xs : Nat → Int32} {K : Nat → Nat × Nat} {I : Mem} {L : Nat → Nat → Int64} {R : Nat → Nat → Option Nat} {n s i : Nat} {v5 v6 : Value} {Q : Lo → Lm → Prop} (h : Sim N xs K I L R n) (hn : n + 6 ≤ lmCells) (hs : s + 876 ≤ lmSlots) (hi : i + 6 ≤ N) (hN : N ≤ 3072) (h5 : isL v5 = false) (h6 : isL v6 = false) (kk : NxT N xs (d + 40) Q i n s) : WP (d + 40) F_369 1459 [.ref lmScr, .ref 0, .ref 318, .ref 337, .int (nI i), v5, v6] [] (K, I, L, R, n, s) Q := by
  have hsc := h.1.2.2.2.1
  have hxs := h.1.2.2.2.2.1.1
  have hT := h.1.1
  refine wp_aload1 (pc' := 1460) rfl rfl ?_
  refine wp_aload0 (pc' := 1461) rfl rfl ?_
  refine wp_iload4 (pc' := 1463) rfl rfl ?_
  refine wp_iconst (v := nI 1) (pc' := 1464) rfl rfl rfl ?_
  refine wp_iaddN (pc' := 1465) rfl rfl rfl rfl ?_
  refine wp_iald (i + 1) (pc' := 1466) rfl hsc rfl (by omega) (by omega) rfl ?_
  rw [show I lmScr (i + 1) = xs (i + 1) from hxs (i + 1)]
  refine wp_ifeq (pc' := 1469) rfl rfl (fun hb => ?_) (fun hb => ?_)
  · skip
    refine wp_iconst (v := nI 0) (pc' := 1474) rfl rfl rfl ?_
    refine wp_aload3 (pc' := 1475) rfl rfl ?_
    refine wp_callS3 (pc' := 1478) rfl rfl rfl rfl rfl rfl ?_
    refine Ok.mono (Nat.le_refl _) (o_falls0 h hn hs) (fun o t hA => ?_)
    obtain ⟨k, hk4, rfl, hOk, hm1, hm2, hm3⟩ := hA
    obtain ⟨K1, I1, L1, R1, n1, s1⟩ := t
    refine Cont.v ?_
    refine wp_istore5 (pc' := 1480) rfl rfl rfl ?_
    refine wp_aload2 (pc' := 1481) rfl rfl ?_
    refine wp_aload0 (pc' := 1482) rfl rfl ?_
    refine wp_iload4 (pc' := 1484) rfl rfl ?_
    refine wp_iconst (v := nI 1) (pc' := 1485) rfl rfl rfl ?_
    refine wp_iaddN (pc' := 1486) rfl rfl rfl rfl ?_
    refine wp_iald (i + 1) (pc' := 1487) rfl hm1 rfl (by omega) (by omega) rfl ?_
    rw [show I1 lmScr (i + 1) = xs (i + 1) from hm2 (i + 1)]
    refine wp_ifeqT rfl hb ?_
    refine wp_iconst (v := nI 0) (pc' := 1495) rfl rfl rfl ?_
    refine wp_callV2 (pc' := 1498) rfl rfl rfl rfl rfl hm3 rfl rfl ?_
    refine Ok.mono (Nat.le_refl _) hOk (fun o t hA => ?_)
    obtain ⟨b, rfl, hb0, hbv, hS2, hn2, hs2⟩ := hA
    obtain ⟨K2, I2, L2, R2, n2, s2⟩ := t
    have hT2 : TK K2 R2 n2 := hS2.1.1
    refine Cont.v ?_
    refine wp_istore6 (pc' := 1500) rfl rfl rfl ?_
    refine wp_aload2 (pc' := 1501) rfl rfl ?_
    refine wp_callV1 (pc' := 1504) rfl rfl rfl rfl rfl (TK.k1 hT2 rfl) rfl rfl ?_
    refine m_thrown (d := d + 39) hT2 ?_
    rw [show I2 318 0 = nI k from hb0]
    refine Cont.v ?_
    refine wp_iload5 (pc' := 1506) rfl rfl ?_
    refine wp_icmpeqT rfl rfl ?_
    refine wp_iload5 (pc' := 1513) rfl rfl ?_
    by_cases hk : k = 0
    · subst hk
      refine wp_ifneF (pc' := 1516) rfl rfl rfl ?_
      refine wp_aload3 (pc' := 1517) rfl rfl ?_
      refine wp_iconst (v := nI 0) (pc' := 1518) rfl rfl rfl ?_
      refine wp_lald 0 (pc' := 1519) rfl (TK.kk hT2 rfl) rfl (by decide) (by decide) rfl ?_
      refine wp_iload6 (pc' := 1521) rfl rfl ?_
      refine wp_i2l (pc' := 1522) rfl rfl ?_
      refine wp_lcmp (pc' := 1523) rfl rfl ?_
      refine wp_ifeqT rfl (lg_eq (hbv rfl)) ?_
      refine wp_goto rfl ?_
      exact kk K2 I2 L2 R2 n2 s2 _ _ rfl rfl hS2 hn2 hs2
    · refine wp_ifneT rfl (fun e => hk (eq_nI e (by omega) (by decide))) ?_
      refine wp_goto rfl ?_
      exact kk K2 I2 L2 R2 n2 s2 _ _ rfl rfl hS2 hn2 hs2
  · skip
    refine wp_iconst (v := nI 1) (pc' := 1470) rfl rfl rfl ?_
    refine wp_goto rfl ?_
    refine wp_aload3 (pc' := 1475) rfl rfl ?_
    refine wp_callS3 (pc' := 1478) rfl rfl rfl rfl rfl rfl ?_
    refine Ok.mono (Nat.le_refl _) (o_falls1 h hn hs) (fun o t hA => ?_)
    obtain ⟨k, hk4, rfl, hOk, hm1, hm2, hm3⟩ := hA
    obtain ⟨K1, I1, L1, R1, n1, s1⟩ := t
    refine Cont.v ?_
    refine wp_istore5 (pc' := 1480) rfl rfl rfl ?_
    refine wp_aload2 (pc' := 1481) rfl rfl ?_
    refine wp_aload0 (pc' := 1482) rfl rfl ?_
    refine wp_iload4 (pc' := 1484) rfl rfl ?_
    refine wp_iconst (v := nI 1) (pc' := 1485) rfl rfl rfl ?_
    refine wp_iaddN (pc' := 1486) rfl rfl rfl rfl ?_
    refine wp_iald (i + 1) (pc' := 1487) rfl hm1 rfl (by omega) (by omega) rfl ?_
    rw [show I1 lmScr (i + 1) = xs (i + 1) from hm2 (i + 1)]
    refine wp_ifeqF (pc' := 1490) rfl hb rfl ?_
    refine wp_iconst (v := nI 1) (pc' := 1491) rfl rfl rfl ?_
    refine wp_goto rfl ?_
    refine wp_callV2 (pc' := 1498) rfl rfl rfl rfl rfl hm3 rfl rfl ?_
    refine Ok.mono (Nat.le_refl _) hOk (fun o t hA => ?_)
    obtain ⟨b, rfl, hb0, hbv, hS2, hn2, hs2⟩ := hA
    obtain ⟨K2, I2, L2, R2, n2, s2⟩ := t
    have hT2 : TK K2 R2 n2 := hS2.1.1
    refine Cont.v ?_
    refine wp_istore6 (pc' := 1500) rfl rfl rfl ?_
    refine wp_aload2 (pc' := 1501) rfl rfl ?_
    refine wp_callV1 (pc' := 1504) rfl rfl rfl rfl rfl (TK.k1 hT2 rfl) rfl rfl ?_
    refine m_thrown (d := d + 39) hT2 ?_
    rw [show I2 318 0 = nI k from hb0]
    refine Cont.v ?_
    refine wp_iload5 (pc' := 1506) rfl rfl ?_
    refine wp_icmpeqT rfl rfl ?_
    refine wp_iload5 (pc' := 1513) rfl rfl ?_
    by_cases hk : k = 0
    · subst hk
      refine wp_ifneF (pc' := 1516) rfl rfl rfl ?_
      refine wp_aload3 (pc' := 1517) rfl rfl ?_
      refine wp_iconst (v := nI 0) (pc' := 1518) rfl rfl rfl ?_
      refine wp_lald 0 (pc' := 1519) rfl (TK.kk hT2 rfl) rfl (by decide) (by decide) rfl ?_
      refine wp_iload6 (pc' := 1521) rfl rfl ?_
      refine wp_i2l (pc' := 1522) rfl rfl ?_
      refine wp_lcmp (pc' := 1523) rfl rfl ?_
      refine wp_ifeqT rfl (lg_eq (hbv rfl)) ?_
      refine wp_goto rfl ?_
      exact kk K2 I2 L2 R2 n2 s2 _ _ rfl rfl hS2 hn2 hs2
    · refine wp_ifneT rfl (fun e => hk (eq_nI e (by omega) (by decide))) ?_
      refine wp_goto rfl ?_
      exact kk K2 I2 L2 R2 n2 s2 _ _ rfl rfl hS2 hn2 hs2
theorem k_24 {N d : Nat} {xs : Nat → Int32} {K : Nat → Nat × Nat} {I : Mem} {L : Nat → Nat → Int64} {R : Nat → Nat → Option Nat} {n s i : Nat} {v5 v6 : Value} {Q : Lo → Lm → Prop} (h : Sim N xs K I L R n) (hn : n + 6 ≤ lmCells) (hs : s + 876 ≤ lmSlots) (hi : i + 6 ≤ N) (hN : N ≤ 3072) (h5 : isL v5 = false) (h6 : isL v6 = false) (kk : NxT N xs (d + 40) Q i n s) : WP (d + 40) F_369 1531 [.ref lmScr, .ref 0, .ref 318, .ref 337, .int (nI i), v5, v6] [] (K, I, L, R, n, s) Q := by
  have hsc := h.1.2.2.2.1
  have hxs := h.1.2.2.2.2.1.1
  have hT := h.1.1
  refine wp_aload1 (pc' := 1532) rfl rfl ?_
  refine wp_aload3 (pc' := 1533) rfl rfl ?_
  refine wp_callS2 (pc' := 1536) rfl rfl rfl rfl rfl rfl ?_
  refine Ok.mono (Nat.le_refl _) (o_ask h hn hs) (fun o t hA => ?_)
  obtain ⟨k, hk4, rfl, hOk, hm1, hm2, hm3⟩ := hA
  obtain ⟨K1, I1, L1, R1, n1, s1⟩ := t
  refine Cont.v ?_
  refine wp_istore5 (pc' := 1538) rfl rfl rfl ?_
  refine wp_aload2 (pc' := 1539) rfl rfl ?_
  refine wp_callV1 (pc' := 1542) rfl rfl rfl rfl rfl hm3 rfl rfl ?_
  refine Ok.mono (Nat.le_refl _) hOk (fun o t hA => ?_)
  obtain ⟨b, rfl, hb0, hbv, hS2, hn2, hs2⟩ := hA
  obtain ⟨K2, I2, L2, R2, n2, s2⟩ := t
  have hT2 : TK K2 R2 n2 := hS2.1.1
  refine Cont.v ?_
  refine wp_istore6 (pc' := 1544) rfl rfl rfl ?_
  refine wp_aload2 (pc' := 1545) rfl rfl ?_
  refine wp_callV1 (pc' := 1548) rfl rfl rfl rfl rfl (TK.k1 hT2 rfl) rfl rfl ?_
  refine m_thrown (d := d + 39) hT2 ?_
  rw [show I2 318 0 = nI k from hb0]
  refine Cont.v ?_
  refine wp_iload5 (pc' := 1550) rfl rfl ?_
  refine wp_icmpeqT rfl rfl ?_
  refine wp_iload5 (pc' := 1557) rfl rfl ?_
  by_cases hk : k = 0
  · subst hk
    refine wp_ifneF (pc' := 1560) rfl rfl rfl ?_
    refine wp_aload3 (pc' := 1561) rfl rfl ?_
    refine wp_iconst (v := nI 0) (pc' := 1562) rfl rfl rfl ?_
    refine wp_lald 0 (pc' := 1563) rfl (TK.kk hT2 rfl) rfl (by decide) (by decide) rfl ?_
    refine wp_iload6 (pc' := 1565) rfl rfl ?_
    refine wp_i2l (pc' := 1566) rfl rfl ?_
    refine wp_lcmp (pc' := 1567) rfl rfl ?_
    refine wp_ifeqT rfl (lg_eq (hbv rfl)) ?_
    refine wp_goto rfl ?_
    exact kk K2 I2 L2 R2 n2 s2 _ _ rfl rfl hS2 hn2 hs2
  · refine wp_ifneT rfl (fun e => hk (eq_nI e (by omega) (by decide))) ?_
    refine wp_goto rfl ?_
    exact kk K2 I2 L2 R2 n2 s2 _ _ rfl rfl hS2 hn2 hs2
theorem k_25 {N d : Nat} {xs : Nat → Int32} {K : Nat → Nat × Nat} {I : Mem} {L : Nat → Nat → Int64} {R : Nat → Nat → Option Nat} {n s i : Nat} {v5 v6 : Value} {Q : Lo → Lm → Prop} (hPl : PlT) (h : Sim N xs K I L R n) (hn : n + 6 ≤ lmCells) (hs : s + 876 ≤ lmSlots) (hi : i + 6 ≤ N) (hN : N ≤ 3072) (h5 : isL v5 = false) (h6 : isL v6 = false) (kk : NxT N xs (d + 40) Q i n s) : WP (d + 40) F_369 1575 [.ref lmScr, .ref 0, .ref 318, .ref 337, .int (nI i), v5, v6] [] (K, I, L, R, n, s) Q := by
  have hsc := h.1.2.2.2.1
  have hxs := h.1.2.2.2.2.1.1
  have hT := h.1.1
  refine wp_aload1 (pc' := 1576) rfl rfl ?_
  refine wp_aload0 (pc' := 1577) rfl rfl ?_
  refine wp_iload4 (pc' := 1579) rfl rfl ?_
  refine wp_iconst (v := nI 1) (pc' := 1580) rfl rfl rfl ?_
  refine wp_iaddN (pc' := 1581) rfl rfl rfl rfl ?_
  refine wp_iald (i + 1) (pc' := 1582) rfl hsc rfl (by omega) (by omega) rfl ?_
  rw [show I lmScr (i + 1) = xs (i + 1) from hxs (i + 1)]
  refine wp_aload3 (pc' := 1583) rfl rfl ?_
  refine wp_callS3 (pc' := 1586) rfl rfl rfl rfl rfl rfl ?_
  refine Ok.mono (Nat.le_refl _) (hPl h hn hs) (fun o t hA => ?_)
  obtain ⟨k, hk4, rfl, hOk, hm1, hm2, hm3⟩ := hA
  obtain ⟨K1, I1, L1, R1, n1, s1⟩ := t
  refine Cont.v ?_
  refine wp_istore5 (pc' := 1588) rfl rfl rfl ?_
  refine wp_aload2 (pc' := 1589) rfl rfl ?_
  refine wp_aload0 (pc' := 1590) rfl rfl ?_
  refine wp_iload4 (pc' := 1592) rfl rfl ?_
  refine wp_iconst (v := nI 1) (pc' := 1593) rfl rfl rfl ?_
  refine wp_iaddN (pc' := 1594) rfl rfl rfl rfl ?_
  refine wp_iald (i + 1) (pc' := 1595) rfl hm1 rfl (by omega) (by omega) rfl ?_
  rw [show I1 lmScr (i + 1) = xs (i + 1) from hm2 (i + 1)]
  refine wp_callV2 (pc' := 1598) rfl rfl rfl rfl rfl hm3 rfl rfl ?_
  refine Ok.mono (Nat.le_refl _) hOk (fun o t hA => ?_)
  obtain ⟨b, rfl, hb0, hbv, hS2, hn2, hs2⟩ := hA
  obtain ⟨K2, I2, L2, R2, n2, s2⟩ := t
  have hT2 : TK K2 R2 n2 := hS2.1.1
  refine Cont.v ?_
  refine wp_istore6 (pc' := 1600) rfl rfl rfl ?_
  refine wp_aload2 (pc' := 1601) rfl rfl ?_
  refine wp_callV1 (pc' := 1604) rfl rfl rfl rfl rfl (TK.k1 hT2 rfl) rfl rfl ?_
  refine m_thrown (d := d + 39) hT2 ?_
  rw [show I2 318 0 = nI k from hb0]
  refine Cont.v ?_
  refine wp_iload5 (pc' := 1606) rfl rfl ?_
  refine wp_icmpeqT rfl rfl ?_
  refine wp_iload5 (pc' := 1613) rfl rfl ?_
  by_cases hk : k = 0
  · subst hk
    refine wp_ifneF (pc' := 1616) rfl rfl rfl ?_
    refine wp_aload3 (pc' := 1617) rfl rfl ?_
    refine wp_iconst (v := nI 0) (pc' := 1618) rfl rfl rfl ?_
    refine wp_lald 0 (pc' := 1619) rfl (TK.kk hT2 rfl) rfl (by decide) (by decide) rfl ?_
    refine wp_iload6 (pc' := 1621) rfl rfl ?_
    refine wp_i2l (pc' := 1622) rfl rfl ?_
    refine wp_lcmp (pc' := 1623) rfl rfl ?_
    refine wp_ifeqT rfl (lg_eq (hbv rfl)) ?_
    refine wp_goto rfl ?_
    exact kk K2 I2 L2 R2 n2 s2 _ _ rfl rfl hS2 hn2 hs2
  · refine wp_ifneT rfl (fun e => hk (eq_nI e (by omega) (by decide))) ?_
    refine wp_goto rfl ?_
    exact kk K2 I2 L2 R2 n2 s2 _ _ rfl rfl hS2 hn2 hs2
theorem k_26 {N d : Nat} {xs : Nat → Int32} {K : Nat → Nat × Nat} {I : Mem} {L : Nat → Nat → Int64} {R : Nat → Nat → Option Nat} {n s i : Nat} {v5 v6 : Value} {Q : Lo → Lm → Prop} (h : Sim N xs K I L R n) (hn : n + 6 ≤ lmCells) (hs : s + 876 ≤ lmSlots) (hi : i + 6 ≤ N) (hN : N ≤ 3072) (h5 : isL v5 = false) (h6 : isL v6 = false) (kk : NxT N xs (d + 40) Q i n s) : WP (d + 40) F_369 1631 [.ref lmScr, .ref 0, .ref 318, .ref 337, .int (nI i), v5, v6] [] (K, I, L, R, n, s) Q := by
  have hsc := h.1.2.2.2.1
  have hxs := h.1.2.2.2.2.1.1
  have hT := h.1.1
  refine wp_aload1 (pc' := 1632) rfl rfl ?_
  refine wp_callV1 (pc' := 1635) rfl rfl rfl rfl rfl (TK.k1 hT rfl) rfl rfl ?_
  refine Ok.mono (Nat.le_refl _) (o_even h) (fun o t hA => ?_)
  obtain ⟨v, rfl, hOk, hm1, hm2, hm3⟩ := hA
  obtain ⟨K1, I1, L1, R1, n1, s1⟩ := t
  refine Cont.v ?_
  refine wp_aload2 (pc' := 1636) rfl rfl ?_
  refine wp_callV1 (pc' := 1639) rfl rfl rfl rfl rfl hm3 rfl rfl ?_
  refine Ok.mono (Nat.le_refl _) hOk (fun o t hA => ?_)
  obtain ⟨rfl, hS2, hn2, hs2⟩ := hA
  obtain ⟨K2, I2, L2, R2, n2, s2⟩ := t
  refine Cont.v ?_
  refine wp_icmpeqT rfl rfl ?_
  exact kk K2 I2 L2 R2 n2 s2 _ _ h5 h6 hS2 hn2 hs2
theorem k_27 {N d : Nat} {xs : Nat → Int32} {K : Nat → Nat × Nat} {I : Mem} {L : Nat → Nat → Int64} {R : Nat → Nat → Option Nat} {n s i : Nat} {v5 v6 : Value} {Q : Lo → Lm → Prop} (h : Sim N xs K I L R n) (hn : n + 6 ≤ lmCells) (hs : s + 876 ≤ lmSlots) (hi : i + 6 ≤ N) (hN : N ≤ 3072) (h5 : isL v5 = false) (h6 : isL v6 = false) (kk : NxT N xs (d + 40) Q i n s) : WP (d + 40) F_369 1644 [.ref lmScr, .ref 0, .ref 318, .ref 337, .int (nI i), v5, v6] [] (K, I, L, R, n, s) Q := by
  have hsc := h.1.2.2.2.1
  have hxs := h.1.2.2.2.2.1.1
  have hT := h.1.1
  refine wp_aload1 (pc' := 1645) rfl rfl ?_
  refine wp_aload0 (pc' := 1646) rfl rfl ?_
  refine wp_iload4 (pc' := 1648) rfl rfl ?_
  refine wp_iconst (v := nI 1) (pc' := 1649) rfl rfl rfl ?_
  refine wp_iaddN (pc' := 1650) rfl rfl rfl rfl ?_
  refine wp_iald (i + 1) (pc' := 1651) rfl hsc rfl (by omega) (by omega) rfl ?_
  rw [show I lmScr (i + 1) = xs (i + 1) from hxs (i + 1)]
  refine wp_callV2 (pc' := 1654) rfl rfl rfl rfl rfl (TK.k1 hT rfl) rfl rfl ?_
  refine Ok.mono (Nat.le_refl _) (o_last h) (fun o t hA => ?_)
  obtain ⟨v, rfl, hOk, hm1, hm2, hm3⟩ := hA
  obtain ⟨K1, I1, L1, R1, n1, s1⟩ := t
  refine Cont.v ?_
  refine wp_aload2 (pc' := 1655) rfl rfl ?_
  refine wp_aload0 (pc' := 1656) rfl rfl ?_
  refine wp_iload4 (pc' := 1658) rfl rfl ?_
  refine wp_iconst (v := nI 1) (pc' := 1659) rfl rfl rfl ?_
  refine wp_iaddN (pc' := 1660) rfl rfl rfl rfl ?_
  refine wp_iald (i + 1) (pc' := 1661) rfl hm1 rfl (by omega) (by omega) rfl ?_
  rw [show I1 lmScr (i + 1) = xs (i + 1) from hm2 (i + 1)]
  refine wp_callV2 (pc' := 1664) rfl rfl rfl rfl rfl hm3 rfl rfl ?_
  refine Ok.mono (Nat.le_refl _) hOk (fun o t hA => ?_)
  obtain ⟨rfl, hS2, hn2, hs2⟩ := hA
  obtain ⟨K2, I2, L2, R2, n2, s2⟩ := t
  refine Cont.v ?_
  refine wp_icmpeqT rfl rfl ?_
  exact kk K2 I2 L2 R2 n2 s2 _ _ h5 h6 hS2 hn2 hs2
theorem k_28 {N d : Nat} {xs : Nat → Int32} {K : Nat → Nat × Nat} {I : Mem} {L : Nat → Nat → Int64} {R : Nat → Nat → Option Nat} {n s i : Nat} {v5 v6 : Value} {Q : Lo → Lm → Prop} (h : Sim N xs K I L R n) (hn : n + 6 ≤ lmCells) (hs : s + 876 ≤ lmSlots) (hi : i + 6 ≤ N) (hN : N ≤ 3072) (h5 : isL v5 = false) (h6 : isL v6 = false) (kk : NxT N xs (d + 40) Q i n s) : WP (d + 40) F_369 1669 [.ref lmScr, .ref 0, .ref 318, .ref 337, .int (nI i), v5, v6] [] (K, I, L, R, n, s) Q := by
  have hsc := h.1.2.2.2.1
  have hxs := h.1.2.2.2.2.1.1
  have hT := h.1.1
  refine wp_aload1 (pc' := 1670) rfl rfl ?_
  refine wp_aload0 (pc' := 1671) rfl rfl ?_
  refine wp_iload4 (pc' := 1673) rfl rfl ?_
  refine wp_iconst (v := nI 1) (pc' := 1674) rfl rfl rfl ?_
  refine wp_iaddN (pc' := 1675) rfl rfl rfl rfl ?_
  refine wp_iald (i + 1) (pc' := 1676) rfl hsc rfl (by omega) (by omega) rfl ?_
  rw [show I lmScr (i + 1) = xs (i + 1) from hxs (i + 1)]
  refine wp_callV2 (pc' := 1679) rfl rfl rfl rfl rfl (TK.k1 hT rfl) rfl rfl ?_
  refine Ok.mono (Nat.le_refl _) (o_spit h) (fun o t hA => ?_)
  obtain ⟨v, rfl, hOk, hm1, hm2, hm3⟩ := hA
  obtain ⟨K1, I1, L1, R1, n1, s1⟩ := t
  refine Cont.v ?_
  refine wp_aload2 (pc' := 1680) rfl rfl ?_
  refine wp_aload0 (pc' := 1681) rfl rfl ?_
  refine wp_iload4 (pc' := 1683) rfl rfl ?_
  refine wp_iconst (v := nI 1) (pc' := 1684) rfl rfl rfl ?_
  refine wp_iaddN (pc' := 1685) rfl rfl rfl rfl ?_
  refine wp_iald (i + 1) (pc' := 1686) rfl hm1 rfl (by omega) (by omega) rfl ?_
  rw [show I1 lmScr (i + 1) = xs (i + 1) from hm2 (i + 1)]
  refine wp_callV2 (pc' := 1689) rfl rfl rfl rfl rfl hm3 rfl rfl ?_
  refine Ok.mono (Nat.le_refl _) hOk (fun o t hA => ?_)
  obtain ⟨rfl, hS2, hn2, hs2⟩ := hA
  obtain ⟨K2, I2, L2, R2, n2, s2⟩ := t
  refine Cont.v ?_
  refine wp_icmpeqT rfl rfl ?_
  exact kk K2 I2 L2 R2 n2 s2 _ _ h5 h6 hS2 hn2 hs2
theorem k_29 {N d : Nat} {xs : Nat → Int32} {K : Nat → Nat × Nat} {I : Mem} {L : Nat → Nat → Int64} {R : Nat → Nat → Option Nat} {n s i : Nat} {v5 v6 : Value} {Q : Lo → Lm → Prop} (h : Sim N xs K I L R n) (hn : n + 6 ≤ lmCells) (hs : s + 876 ≤ lmSlots) (hi : i + 6 ≤ N) (hN : N ≤ 3072) (h5 : isL v5 = false) (h6 : isL v6 = false) (kk : NxT N xs (d + 40) Q i n s) : WP (d + 40) F_369 1694 [.ref lmScr, .ref 0, .ref 318, .ref 337, .int (nI i), v5, v6] [] (K, I, L, R, n, s) Q := by
  have hsc := h.1.2.2.2.1
  have hxs := h.1.2.2.2.2.1.1
  have hT := h.1.1
  refine wp_aload1 (pc' := 1695) rfl rfl ?_
  refine wp_callV1 (pc' := 1698) rfl rfl rfl rfl rfl (TK.k1 hT rfl) rfl rfl ?_
  refine Ok.mono (Nat.le_refl _) (o_hags h) (fun o t hA => ?_)
  obtain ⟨v, rfl, hOk, hm1, hm2, hm3⟩ := hA
  obtain ⟨K1, I1, L1, R1, n1, s1⟩ := t
  refine Cont.v ?_
  refine wp_aload2 (pc' := 1699) rfl rfl ?_
  refine wp_callV1 (pc' := 1702) rfl rfl rfl rfl rfl hm3 rfl rfl ?_
  refine Ok.mono (Nat.le_refl _) hOk (fun o t hA => ?_)
  obtain ⟨rfl, hS2, hn2, hs2⟩ := hA
  obtain ⟨K2, I2, L2, R2, n2, s2⟩ := t
  refine Cont.v ?_
  refine wp_icmpeqT rfl rfl ?_
  exact kk K2 I2 L2 R2 n2 s2 _ _ h5 h6 hS2 hn2 hs2
theorem k_30 {N d : Nat} {xs : Nat → Int32} {K : Nat → Nat × Nat} {I : Mem} {L : Nat → Nat → Int64} {R : Nat → Nat → Option Nat} {n s i : Nat} {v5 v6 : Value} {Q : Lo → Lm → Prop} (h : Sim N xs K I L R n) (hn : n + 6 ≤ lmCells) (hs : s + 876 ≤ lmSlots) (hi : i + 6 ≤ N) (hN : N ≤ 3072) (h5 : isL v5 = false) (h6 : isL v6 = false) (kk : NxT N xs (d + 40) Q i n s) : WP (d + 40) F_369 1707 [.ref lmScr, .ref 0, .ref 318, .ref 337, .int (nI i), v5, v6] [] (K, I, L, R, n, s) Q := by
  have hsc := h.1.2.2.2.1
  have hxs := h.1.2.2.2.2.1.1
  have hT := h.1.1
  refine wp_aload1 (pc' := 1708) rfl rfl ?_
  refine wp_aload0 (pc' := 1709) rfl rfl ?_
  refine wp_iload4 (pc' := 1711) rfl rfl ?_
  refine wp_iconst (v := nI 1) (pc' := 1712) rfl rfl rfl ?_
  refine wp_iaddN (pc' := 1713) rfl rfl rfl rfl ?_
  refine wp_iald (i + 1) (pc' := 1714) rfl hsc rfl (by omega) (by omega) rfl ?_
  rw [show I lmScr (i + 1) = xs (i + 1) from hxs (i + 1)]
  refine wp_aload3 (pc' := 1715) rfl rfl ?_
  refine wp_callS3 (pc' := 1718) rfl rfl rfl rfl rfl rfl ?_
  refine Ok.mono (Nat.le_refl _) (o_hag h hn hs) (fun o t hA => ?_)
  obtain ⟨k, hk4, rfl, hOk, hm1, hm2, hm3⟩ := hA
  obtain ⟨K1, I1, L1, R1, n1, s1⟩ := t
  refine Cont.v ?_
  refine wp_istore5 (pc' := 1720) rfl rfl rfl ?_
  refine wp_aload2 (pc' := 1721) rfl rfl ?_
  refine wp_aload0 (pc' := 1722) rfl rfl ?_
  refine wp_iload4 (pc' := 1724) rfl rfl ?_
  refine wp_iconst (v := nI 1) (pc' := 1725) rfl rfl rfl ?_
  refine wp_iaddN (pc' := 1726) rfl rfl rfl rfl ?_
  refine wp_iald (i + 1) (pc' := 1727) rfl hm1 rfl (by omega) (by omega) rfl ?_
  rw [show I1 lmScr (i + 1) = xs (i + 1) from hm2 (i + 1)]
  refine wp_callV2 (pc' := 1730) rfl rfl rfl rfl rfl hm3 rfl rfl ?_
  refine Ok.mono (Nat.le_refl _) hOk (fun o t hA => ?_)
  obtain ⟨b, rfl, hb0, hbv, hS2, hn2, hs2⟩ := hA
  obtain ⟨K2, I2, L2, R2, n2, s2⟩ := t
  have hT2 : TK K2 R2 n2 := hS2.1.1
  refine Cont.v ?_
  refine wp_istore6 (pc' := 1732) rfl rfl rfl ?_
  refine wp_aload2 (pc' := 1733) rfl rfl ?_
  refine wp_callV1 (pc' := 1736) rfl rfl rfl rfl rfl (TK.k1 hT2 rfl) rfl rfl ?_
  refine m_thrown (d := d + 39) hT2 ?_
  rw [show I2 318 0 = nI k from hb0]
  refine Cont.v ?_
  refine wp_iload5 (pc' := 1738) rfl rfl ?_
  refine wp_icmpeqT rfl rfl ?_
  refine wp_iload5 (pc' := 1745) rfl rfl ?_
  by_cases hk : k = 0
  · subst hk
    refine wp_ifneF (pc' := 1748) rfl rfl rfl ?_
    refine wp_aload3 (pc' := 1749) rfl rfl ?_
    refine wp_iconst (v := nI 0) (pc' := 1750) rfl rfl rfl ?_
    refine wp_lald 0 (pc' := 1751) rfl (TK.kk hT2 rfl) rfl (by decide) (by decide) rfl ?_
    refine wp_iload6 (pc' := 1753) rfl rfl ?_
    refine wp_i2l (pc' := 1754) rfl rfl ?_
    refine wp_lcmp (pc' := 1755) rfl rfl ?_
    refine wp_ifeqT rfl (lg_eq (hbv rfl)) ?_
    refine wp_goto rfl ?_
    exact kk K2 I2 L2 R2 n2 s2 _ _ rfl rfl hS2 hn2 hs2
  · refine wp_ifneT rfl (fun e => hk (eq_nI e (by omega) (by decide))) ?_
    refine wp_goto rfl ?_
    exact kk K2 I2 L2 R2 n2 s2 _ _ rfl rfl hS2 hn2 hs2
theorem k_31 {N d : Nat} {xs : Nat → Int32} {K : Nat → Nat × Nat} {I : Mem} {L : Nat → Nat → Int64} {R : Nat → Nat → Option Nat} {n s i : Nat} {v5 v6 : Value} {Q : Lo → Lm → Prop} (h : Sim N xs K I L R n) (hn : n + 6 ≤ lmCells) (hs : s + 876 ≤ lmSlots) (hi : i + 6 ≤ N) (hN : N ≤ 3072) (h5 : isL v5 = false) (h6 : isL v6 = false) (kk : NxT N xs (d + 40) Q i n s) : WP (d + 40) F_369 1763 [.ref lmScr, .ref 0, .ref 318, .ref 337, .int (nI i), v5, v6] [] (K, I, L, R, n, s) Q := by
  have hsc := h.1.2.2.2.1
  have hxs := h.1.2.2.2.2.1.1
  have hT := h.1.1
  refine wp_aload1 (pc' := 1764) rfl rfl ?_
  refine wp_callV1 (pc' := 1767) rfl rfl rfl rfl rfl (TK.k1 hT rfl) rfl rfl ?_
  refine Ok.mono (Nat.le_refl _) (o_bridges h) (fun o t hA => ?_)
  obtain ⟨v, rfl, hOk, hm1, hm2, hm3⟩ := hA
  obtain ⟨K1, I1, L1, R1, n1, s1⟩ := t
  refine Cont.v ?_
  refine wp_aload2 (pc' := 1768) rfl rfl ?_
  refine wp_callV1 (pc' := 1771) rfl rfl rfl rfl rfl hm3 rfl rfl ?_
  refine Ok.mono (Nat.le_refl _) hOk (fun o t hA => ?_)
  obtain ⟨rfl, hS2, hn2, hs2⟩ := hA
  obtain ⟨K2, I2, L2, R2, n2, s2⟩ := t
  refine Cont.v ?_
  refine wp_icmpeqT rfl rfl ?_
  exact kk K2 I2 L2 R2 n2 s2 _ _ h5 h6 hS2 hn2 hs2
theorem k_32 {N d : Nat} {xs : Nat → Int32} {K : Nat → Nat × Nat} {I : Mem} {L : Nat → Nat → Int64} {R : Nat → Nat → Option Nat} {n s i : Nat} {v5 v6 : Value} {Q : Lo → Lm → Prop} (h : Sim N xs K I L R n) (hn : n + 6 ≤ lmCells) (hs : s + 876 ≤ lmSlots) (hi : i + 6 ≤ N) (hN : N ≤ 3072) (h5 : isL v5 = false) (h6 : isL v6 = false) (kk : NxT N xs (d + 40) Q i n s) : WP (d + 40) F_369 1776 [.ref lmScr, .ref 0, .ref 318, .ref 337, .int (nI i), v5, v6] [] (K, I, L, R, n, s) Q := by
  have hsc := h.1.2.2.2.1
  have hxs := h.1.2.2.2.2.1.1
  have hT := h.1.1
  refine wp_aload1 (pc' := 1777) rfl rfl ?_
  refine wp_aload0 (pc' := 1778) rfl rfl ?_
  refine wp_iload4 (pc' := 1780) rfl rfl ?_
  refine wp_iconst (v := nI 1) (pc' := 1781) rfl rfl rfl ?_
  refine wp_iaddN (pc' := 1782) rfl rfl rfl rfl ?_
  refine wp_iald (i + 1) (pc' := 1783) rfl hsc rfl (by omega) (by omega) rfl ?_
  rw [show I lmScr (i + 1) = xs (i + 1) from hxs (i + 1)]
  refine wp_aload0 (pc' := 1784) rfl rfl ?_
  refine wp_iload4 (pc' := 1786) rfl rfl ?_
  refine wp_iconst (v := nI 2) (pc' := 1787) rfl rfl rfl ?_
  refine wp_iaddN (pc' := 1788) rfl rfl rfl rfl ?_
  refine wp_iald (i + 2) (pc' := 1789) rfl hsc rfl (by omega) (by omega) rfl ?_
  rw [show I lmScr (i + 2) = xs (i + 2) from hxs (i + 2)]
  refine wp_aload3 (pc' := 1790) rfl rfl ?_
  refine wp_callS4 (pc' := 1793) rfl rfl rfl rfl rfl rfl ?_
  refine Ok.mono (Nat.le_refl _) (o_far h hn hs) (fun o t hA => ?_)
  obtain ⟨k, hk4, rfl, hOk, hm1, hm2, hm3⟩ := hA
  obtain ⟨K1, I1, L1, R1, n1, s1⟩ := t
  refine Cont.v ?_
  refine wp_istore5 (pc' := 1795) rfl rfl rfl ?_
  refine wp_aload2 (pc' := 1796) rfl rfl ?_
  refine wp_aload0 (pc' := 1797) rfl rfl ?_
  refine wp_iload4 (pc' := 1799) rfl rfl ?_
  refine wp_iconst (v := nI 1) (pc' := 1800) rfl rfl rfl ?_
  refine wp_iaddN (pc' := 1801) rfl rfl rfl rfl ?_
  refine wp_iald (i + 1) (pc' := 1802) rfl hm1 rfl (by omega) (by omega) rfl ?_
  rw [show I1 lmScr (i + 1) = xs (i + 1) from hm2 (i + 1)]
  refine wp_aload0 (pc' := 1803) rfl rfl ?_
  refine wp_iload4 (pc' := 1805) rfl rfl ?_
  refine wp_iconst (v := nI 2) (pc' := 1806) rfl rfl rfl ?_
  refine wp_iaddN (pc' := 1807) rfl rfl rfl rfl ?_
  refine wp_iald (i + 2) (pc' := 1808) rfl hm1 rfl (by omega) (by omega) rfl ?_
  rw [show I1 lmScr (i + 2) = xs (i + 2) from hm2 (i + 2)]
  refine wp_callV3 (pc' := 1811) rfl rfl rfl rfl rfl hm3 rfl rfl ?_
  refine Ok.mono (Nat.le_refl _) hOk (fun o t hA => ?_)
  obtain ⟨b, rfl, hb0, hbv, hS2, hn2, hs2⟩ := hA
  obtain ⟨K2, I2, L2, R2, n2, s2⟩ := t
  have hT2 : TK K2 R2 n2 := hS2.1.1
  refine Cont.v ?_
  refine wp_istore6 (pc' := 1813) rfl rfl rfl ?_
  refine wp_aload2 (pc' := 1814) rfl rfl ?_
  refine wp_callV1 (pc' := 1817) rfl rfl rfl rfl rfl (TK.k1 hT2 rfl) rfl rfl ?_
  refine m_thrown (d := d + 39) hT2 ?_
  rw [show I2 318 0 = nI k from hb0]
  refine Cont.v ?_
  refine wp_iload5 (pc' := 1819) rfl rfl ?_
  refine wp_icmpeqT rfl rfl ?_
  refine wp_iload5 (pc' := 1826) rfl rfl ?_
  by_cases hk : k = 0
  · subst hk
    refine wp_ifneF (pc' := 1829) rfl rfl rfl ?_
    refine wp_aload3 (pc' := 1830) rfl rfl ?_
    refine wp_iconst (v := nI 0) (pc' := 1831) rfl rfl rfl ?_
    refine wp_lald 0 (pc' := 1832) rfl (TK.kk hT2 rfl) rfl (by decide) (by decide) rfl ?_
    refine wp_iload6 (pc' := 1834) rfl rfl ?_
    refine wp_i2l (pc' := 1835) rfl rfl ?_
    refine wp_lcmp (pc' := 1836) rfl rfl ?_
    refine wp_ifeqT rfl (lg_eq (hbv rfl)) ?_
    refine wp_goto rfl ?_
    exact kk K2 I2 L2 R2 n2 s2 _ _ rfl rfl hS2 hn2 hs2
  · refine wp_ifneT rfl (fun e => hk (eq_nI e (by omega) (by decide))) ?_
    refine wp_goto rfl ?_
    exact kk K2 I2 L2 R2 n2 s2 _ _ rfl rfl hS2 hn2 hs2
theorem k_33 {N d : Nat} {xs : Nat → Int32} {K : Nat → Nat × Nat} {I : Mem} {L : Nat → Nat → Int64} {R : Nat → Nat → Option Nat} {n s i : Nat} {v5 v6 : Value} {Q : Lo → Lm → Prop} (hPa : PaT) (h : Sim N xs K I L R n) (hn : n + 6 ≤ lmCells) (hs : s + 876 ≤ lmSlots) (hi : i + 6 ≤ N) (hN : N ≤ 3072) (h5 : isL v5 = false) (h6 : isL v6 = false) (kk : NxT N xs (d + 40) Q i n s) : WP (d + 40) F_369 1844 [.ref lmScr, .ref 0, .ref 318, .ref 337, .int (nI i), v5, v6] [] (K, I, L, R, n, s) Q := by
  have hsc := h.1.2.2.2.1
  have hxs := h.1.2.2.2.2.1.1
  have hT := h.1.1
  refine wp_aload1 (pc' := 1845) rfl rfl ?_
  refine wp_aload0 (pc' := 1846) rfl rfl ?_
  refine wp_iload4 (pc' := 1848) rfl rfl ?_
  refine wp_iconst (v := nI 1) (pc' := 1849) rfl rfl rfl ?_
  refine wp_iaddN (pc' := 1850) rfl rfl rfl rfl ?_
  refine wp_iald (i + 1) (pc' := 1851) rfl hsc rfl (by omega) (by omega) rfl ?_
  rw [show I lmScr (i + 1) = xs (i + 1) from hxs (i + 1)]
  refine wp_aload3 (pc' := 1852) rfl rfl ?_
  refine wp_callS3 (pc' := 1855) rfl rfl rfl rfl rfl rfl ?_
  refine Ok.mono (Nat.le_refl _) (hPa h hn hs) (fun o t hA => ?_)
  obtain ⟨k, hk4, rfl, hOk, hm1, hm2, hm3⟩ := hA
  obtain ⟨K1, I1, L1, R1, n1, s1⟩ := t
  refine Cont.v ?_
  refine wp_istore5 (pc' := 1857) rfl rfl rfl ?_
  refine wp_aload2 (pc' := 1858) rfl rfl ?_
  refine wp_aload0 (pc' := 1859) rfl rfl ?_
  refine wp_iload4 (pc' := 1861) rfl rfl ?_
  refine wp_iconst (v := nI 1) (pc' := 1862) rfl rfl rfl ?_
  refine wp_iaddN (pc' := 1863) rfl rfl rfl rfl ?_
  refine wp_iald (i + 1) (pc' := 1864) rfl hm1 rfl (by omega) (by omega) rfl ?_
  rw [show I1 lmScr (i + 1) = xs (i + 1) from hm2 (i + 1)]
  refine wp_callV2 (pc' := 1867) rfl rfl rfl rfl rfl hm3 rfl rfl ?_
  refine Ok.mono (Nat.le_refl _) hOk (fun o t hA => ?_)
  obtain ⟨b, rfl, hb0, hbv, hS2, hn2, hs2⟩ := hA
  obtain ⟨K2, I2, L2, R2, n2, s2⟩ := t
  have hT2 : TK K2 R2 n2 := hS2.1.1
  refine Cont.v ?_
  refine wp_istore6 (pc' := 1869) rfl rfl rfl ?_
  refine wp_aload2 (pc' := 1870) rfl rfl ?_
  refine wp_callV1 (pc' := 1873) rfl rfl rfl rfl rfl (TK.k1 hT2 rfl) rfl rfl ?_
  refine m_thrown (d := d + 39) hT2 ?_
  rw [show I2 318 0 = nI k from hb0]
  refine Cont.v ?_
  refine wp_iload5 (pc' := 1875) rfl rfl ?_
  refine wp_icmpeqT rfl rfl ?_
  refine wp_iload5 (pc' := 1882) rfl rfl ?_
  by_cases hk : k = 0
  · subst hk
    refine wp_ifneF (pc' := 1885) rfl rfl rfl ?_
    refine wp_aload3 (pc' := 1886) rfl rfl ?_
    refine wp_iconst (v := nI 0) (pc' := 1887) rfl rfl rfl ?_
    refine wp_lald 0 (pc' := 1888) rfl (TK.kk hT2 rfl) rfl (by decide) (by decide) rfl ?_
    refine wp_iload6 (pc' := 1890) rfl rfl ?_
    refine wp_i2l (pc' := 1891) rfl rfl ?_
    refine wp_lcmp (pc' := 1892) rfl rfl ?_
    refine wp_ifeqT rfl (lg_eq (hbv rfl)) ?_
    refine wp_goto rfl ?_
    exact kk K2 I2 L2 R2 n2 s2 _ _ rfl rfl hS2 hn2 hs2
  · refine wp_ifneT rfl (fun e => hk (eq_nI e (by omega) (by decide))) ?_
    refine wp_goto rfl ?_
    exact kk K2 I2 L2 R2 n2 s2 _ _ rfl rfl hS2 hn2 hs2
theorem k_34 {N d : Nat} {xs : Nat → Int32} {K : Nat → Nat × Nat} {I : Mem} {L : Nat → Nat → Int64} {R : Nat → Nat → Option Nat} {n s i : Nat} {v5 v6 : Value} {Q : Lo → Lm → Prop} (h : Sim N xs K I L R n) (hn : n + 6 ≤ lmCells) (hs : s + 876 ≤ lmSlots) (hi : i + 6 ≤ N) (hN : N ≤ 3072) (h5 : isL v5 = false) (h6 : isL v6 = false) (kk : NxT N xs (d + 40) Q i n s) : WP (d + 40) F_369 1900 [.ref lmScr, .ref 0, .ref 318, .ref 337, .int (nI i), v5, v6] [] (K, I, L, R, n, s) Q := by
  have hsc := h.1.2.2.2.1
  have hxs := h.1.2.2.2.2.1.1
  have hT := h.1.1
  refine wp_aload1 (pc' := 1901) rfl rfl ?_
  refine wp_aload0 (pc' := 1902) rfl rfl ?_
  refine wp_iload4 (pc' := 1904) rfl rfl ?_
  refine wp_iconst (v := nI 1) (pc' := 1905) rfl rfl rfl ?_
  refine wp_iaddN (pc' := 1906) rfl rfl rfl rfl ?_
  refine wp_iald (i + 1) (pc' := 1907) rfl hsc rfl (by omega) (by omega) rfl ?_
  rw [show I lmScr (i + 1) = xs (i + 1) from hxs (i + 1)]
  refine wp_aload0 (pc' := 1908) rfl rfl ?_
  refine wp_iload4 (pc' := 1910) rfl rfl ?_
  refine wp_iconst (v := nI 2) (pc' := 1911) rfl rfl rfl ?_
  refine wp_iaddN (pc' := 1912) rfl rfl rfl rfl ?_
  refine wp_iald (i + 2) (pc' := 1913) rfl hsc rfl (by omega) (by omega) rfl ?_
  rw [show I lmScr (i + 2) = xs (i + 2) from hxs (i + 2)]
  refine wp_aload3 (pc' := 1914) rfl rfl ?_
  refine wp_callS4 (pc' := 1917) rfl rfl rfl rfl rfl rfl ?_
  refine Ok.mono (Nat.le_refl _) (o_rests h hn hs) (fun o t hA => ?_)
  obtain ⟨k, hk4, rfl, hOk, hm1, hm2, hm3⟩ := hA
  obtain ⟨K1, I1, L1, R1, n1, s1⟩ := t
  refine Cont.v ?_
  refine wp_istore5 (pc' := 1919) rfl rfl rfl ?_
  refine wp_aload2 (pc' := 1920) rfl rfl ?_
  refine wp_aload0 (pc' := 1921) rfl rfl ?_
  refine wp_iload4 (pc' := 1923) rfl rfl ?_
  refine wp_iconst (v := nI 1) (pc' := 1924) rfl rfl rfl ?_
  refine wp_iaddN (pc' := 1925) rfl rfl rfl rfl ?_
  refine wp_iald (i + 1) (pc' := 1926) rfl hm1 rfl (by omega) (by omega) rfl ?_
  rw [show I1 lmScr (i + 1) = xs (i + 1) from hm2 (i + 1)]
  refine wp_aload0 (pc' := 1927) rfl rfl ?_
  refine wp_iload4 (pc' := 1929) rfl rfl ?_
  refine wp_iconst (v := nI 2) (pc' := 1930) rfl rfl rfl ?_
  refine wp_iaddN (pc' := 1931) rfl rfl rfl rfl ?_
  refine wp_iald (i + 2) (pc' := 1932) rfl hm1 rfl (by omega) (by omega) rfl ?_
  rw [show I1 lmScr (i + 2) = xs (i + 2) from hm2 (i + 2)]
  refine wp_callV3 (pc' := 1935) rfl rfl rfl rfl rfl hm3 rfl rfl ?_
  refine Ok.mono (Nat.le_refl _) hOk (fun o t hA => ?_)
  obtain ⟨b, rfl, hb0, hbv, hS2, hn2, hs2⟩ := hA
  obtain ⟨K2, I2, L2, R2, n2, s2⟩ := t
  have hT2 : TK K2 R2 n2 := hS2.1.1
  refine Cont.v ?_
  refine wp_istore6 (pc' := 1937) rfl rfl rfl ?_
  refine wp_aload2 (pc' := 1938) rfl rfl ?_
  refine wp_callV1 (pc' := 1941) rfl rfl rfl rfl rfl (TK.k1 hT2 rfl) rfl rfl ?_
  refine m_thrown (d := d + 39) hT2 ?_
  rw [show I2 318 0 = nI k from hb0]
  refine Cont.v ?_
  refine wp_iload5 (pc' := 1943) rfl rfl ?_
  refine wp_icmpeqT rfl rfl ?_
  refine wp_iload5 (pc' := 1950) rfl rfl ?_
  by_cases hk : k = 0
  · subst hk
    refine wp_ifneF (pc' := 1953) rfl rfl rfl ?_
    refine wp_aload3 (pc' := 1954) rfl rfl ?_
    refine wp_iconst (v := nI 0) (pc' := 1955) rfl rfl rfl ?_
    refine wp_lald 0 (pc' := 1956) rfl (TK.kk hT2 rfl) rfl (by decide) (by decide) rfl ?_
    refine wp_iload6 (pc' := 1958) rfl rfl ?_
    refine wp_i2l (pc' := 1959) rfl rfl ?_
    refine wp_lcmp (pc' := 1960) rfl rfl ?_
    refine wp_ifeqT rfl (lg_eq (hbv rfl)) ?_
    refine wp_goto rfl ?_
    exact kk K2 I2 L2 R2 n2 s2 _ _ rfl rfl hS2 hn2 hs2
  · refine wp_ifneT rfl (fun e => hk (eq_nI e (by omega) (by decide))) ?_
    refine wp_goto rfl ?_
    exact kk K2 I2 L2 R2 n2 s2 _ _ rfl rfl hS2 hn2 hs2
theorem k_35 {N d : Nat} {xs : Nat → Int32} {K : Nat → Nat × Nat} {I : Mem} {L : Nat → Nat → Int64} {R : Nat → Nat → Option Nat} {n s i : Nat} {v5 v6 : Value} {Q : Lo → Lm → Prop} (h : Sim N xs K I L R n) (hn : n + 6 ≤ lmCells) (hs : s + 876 ≤ lmSlots) (hi : i + 6 ≤ N) (hN : N ≤ 3072) (h5 : isL v5 = false) (h6 : isL v6 = false) (kk : NxT N xs (d + 40) Q i n s) : WP (d + 40) F_369 1968 [.ref lmScr, .ref 0, .ref 318, .ref 337, .int (nI i), v5, v6] [] (K, I, L, R, n, s) Q := by
  have hsc := h.1.2.2.2.1
  have hxs := h.1.2.2.2.2.1.1
  have hT := h.1.1
  refine wp_aload1 (pc' := 1969) rfl rfl ?_
  refine wp_aload0 (pc' := 1970) rfl rfl ?_
  refine wp_iload4 (pc' := 1972) rfl rfl ?_
  refine wp_iconst (v := nI 1) (pc' := 1973) rfl rfl rfl ?_
  refine wp_iaddN (pc' := 1974) rfl rfl rfl rfl ?_
  refine wp_iald (i + 1) (pc' := 1975) rfl hsc rfl (by omega) (by omega) rfl ?_
  rw [show I lmScr (i + 1) = xs (i + 1) from hxs (i + 1)]
  refine wp_aload0 (pc' := 1976) rfl rfl ?_
  refine wp_iload4 (pc' := 1978) rfl rfl ?_
  refine wp_iconst (v := nI 2) (pc' := 1979) rfl rfl rfl ?_
  refine wp_iaddN (pc' := 1980) rfl rfl rfl rfl ?_
  refine wp_iald (i + 2) (pc' := 1981) rfl hsc rfl (by omega) (by omega) rfl ?_
  rw [show I lmScr (i + 2) = xs (i + 2) from hxs (i + 2)]
  refine wp_aload3 (pc' := 1982) rfl rfl ?_
  refine wp_callS4 (pc' := 1985) rfl rfl rfl rfl rfl rfl ?_
  refine Ok.mono (Nat.le_refl _) (o_odds h hn hs) (fun o t hA => ?_)
  obtain ⟨k, hk4, rfl, hOk, hm1, hm2, hm3⟩ := hA
  obtain ⟨K1, I1, L1, R1, n1, s1⟩ := t
  refine Cont.v ?_
  refine wp_istore5 (pc' := 1987) rfl rfl rfl ?_
  refine wp_aload2 (pc' := 1988) rfl rfl ?_
  refine wp_aload0 (pc' := 1989) rfl rfl ?_
  refine wp_iload4 (pc' := 1991) rfl rfl ?_
  refine wp_iconst (v := nI 1) (pc' := 1992) rfl rfl rfl ?_
  refine wp_iaddN (pc' := 1993) rfl rfl rfl rfl ?_
  refine wp_iald (i + 1) (pc' := 1994) rfl hm1 rfl (by omega) (by omega) rfl ?_
  rw [show I1 lmScr (i + 1) = xs (i + 1) from hm2 (i + 1)]
  refine wp_aload0 (pc' := 1995) rfl rfl ?_
  refine wp_iload4 (pc' := 1997) rfl rfl ?_
  refine wp_iconst (v := nI 2) (pc' := 1998) rfl rfl rfl ?_
  refine wp_iaddN (pc' := 1999) rfl rfl rfl rfl ?_
  refine wp_iald (i + 2) (pc' := 2000) rfl hm1 rfl (by omega) (by omega) rfl ?_
  rw [show I1 lmScr (i + 2) = xs (i + 2) from hm2 (i + 2)]
  refine wp_callV3 (pc' := 2003) rfl rfl rfl rfl rfl hm3 rfl rfl ?_
  refine Ok.mono (Nat.le_refl _) hOk (fun o t hA => ?_)
  obtain ⟨b, rfl, hb0, hbv, hS2, hn2, hs2⟩ := hA
  obtain ⟨K2, I2, L2, R2, n2, s2⟩ := t
  have hT2 : TK K2 R2 n2 := hS2.1.1
  refine Cont.v ?_
  refine wp_istore6 (pc' := 2005) rfl rfl rfl ?_
  refine wp_aload2 (pc' := 2006) rfl rfl ?_
  refine wp_callV1 (pc' := 2009) rfl rfl rfl rfl rfl (TK.k1 hT2 rfl) rfl rfl ?_
  refine m_thrown (d := d + 39) hT2 ?_
  rw [show I2 318 0 = nI k from hb0]
  refine Cont.v ?_
  refine wp_iload5 (pc' := 2011) rfl rfl ?_
  refine wp_icmpeqT rfl rfl ?_
  refine wp_iload5 (pc' := 2018) rfl rfl ?_
  by_cases hk : k = 0
  · subst hk
    refine wp_ifneF (pc' := 2021) rfl rfl rfl ?_
    refine wp_aload3 (pc' := 2022) rfl rfl ?_
    refine wp_iconst (v := nI 0) (pc' := 2023) rfl rfl rfl ?_
    refine wp_lald 0 (pc' := 2024) rfl (TK.kk hT2 rfl) rfl (by decide) (by decide) rfl ?_
    refine wp_iload6 (pc' := 2026) rfl rfl ?_
    refine wp_i2l (pc' := 2027) rfl rfl ?_
    refine wp_lcmp (pc' := 2028) rfl rfl ?_
    refine wp_ifeqT rfl (lg_eq (hbv rfl)) ?_
    refine wp_goto rfl ?_
    exact kk K2 I2 L2 R2 n2 s2 _ _ rfl rfl hS2 hn2 hs2
  · refine wp_ifneT rfl (fun e => hk (eq_nI e (by omega) (by decide))) ?_
    refine wp_goto rfl ?_
    exact kk K2 I2 L2 R2 n2 s2 _ _ rfl rfl hS2 hn2 hs2
theorem k_36 {N d : Nat} {xs : Nat → Int32} {K : Nat → Nat × Nat} {I : Mem} {L : Nat → Nat → Int64} {R : Nat → Nat → Option Nat} {n s i : Nat} {v5 v6 : Value} {Q : Lo → Lm → Prop} (h : Sim N xs K I L R n) (hn : n + 6 ≤ lmCells) (hs : s + 876 ≤ lmSlots) (hi : i + 6 ≤ N) (hN : N ≤ 3072) (h5 : isL v5 = false) (h6 : isL v6 = false) (kk : NxT N xs (d + 40) Q i n s) : WP (d + 40) F_369 2036 [.ref lmScr, .ref 0, .ref 318, .ref 337, .int (nI i), v5, v6] [] (K, I, L, R, n, s) Q := by
  have hsc := h.1.2.2.2.1
  have hxs := h.1.2.2.2.2.1.1
  have hT := h.1.1
  refine wp_aload1 (pc' := 2037) rfl rfl ?_
  refine wp_callV1 (pc' := 2040) rfl rfl rfl rfl rfl (TK.k1 hT rfl) rfl rfl ?_
  refine Ok.mono (Nat.le_refl _) (o_deepest h) (fun o t hA => ?_)
  obtain ⟨v, rfl, hOk, hm1, hm2, hm3⟩ := hA
  obtain ⟨K1, I1, L1, R1, n1, s1⟩ := t
  refine Cont.v ?_
  refine wp_aload2 (pc' := 2041) rfl rfl ?_
  refine wp_callV1 (pc' := 2044) rfl rfl rfl rfl rfl hm3 rfl rfl ?_
  refine Ok.mono (Nat.le_refl _) hOk (fun o t hA => ?_)
  obtain ⟨rfl, hS2, hn2, hs2⟩ := hA
  obtain ⟨K2, I2, L2, R2, n2, s2⟩ := t
  refine Cont.v ?_
  refine wp_icmpeqT rfl rfl ?_
  exact kk K2 I2 L2 R2 n2 s2 _ _ h5 h6 hS2 hn2 hs2
theorem k_37 {N d : Nat} {xs : Nat → Int32} {K : Nat → Nat × Nat} {I : Mem} {L : Nat → Nat → Int64} {R : Nat → Nat → Option Nat} {n s i : Nat} {v5 v6 : Value} {Q : Lo → Lm → Prop} (h : Sim N xs K I L R n) (hn : n + 6 ≤ lmCells) (hs : s + 876 ≤ lmSlots) (hi : i + 6 ≤ N) (hN : N ≤ 3072) (h5 : isL v5 = false) (h6 : isL v6 = false) (kk : NxT N xs (d + 40) Q i n s) : WP (d + 40) F_369 2049 [.ref lmScr, .ref 0, .ref 318, .ref 337, .int (nI i), v5, v6] [] (K, I, L, R, n, s) Q := by
  have hsc := h.1.2.2.2.1
  have hxs := h.1.2.2.2.2.1.1
  have hT := h.1.1
  refine wp_aload1 (pc' := 2050) rfl rfl ?_
  refine wp_callV1 (pc' := 2053) rfl rfl rfl rfl rfl (TK.k1 hT rfl) rfl rfl ?_
  refine Ok.mono (Nat.le_refl _) (o_wettest h) (fun o t hA => ?_)
  obtain ⟨v, rfl, hOk, hm1, hm2, hm3⟩ := hA
  obtain ⟨K1, I1, L1, R1, n1, s1⟩ := t
  refine Cont.v ?_
  refine wp_aload2 (pc' := 2054) rfl rfl ?_
  refine wp_callV1 (pc' := 2057) rfl rfl rfl rfl rfl hm3 rfl rfl ?_
  refine Ok.mono (Nat.le_refl _) hOk (fun o t hA => ?_)
  obtain ⟨rfl, hS2, hn2, hs2⟩ := hA
  obtain ⟨K2, I2, L2, R2, n2, s2⟩ := t
  refine Cont.v ?_
  refine wp_icmpeqT rfl rfl ?_
  exact kk K2 I2 L2 R2 n2 s2 _ _ h5 h6 hS2 hn2 hs2
theorem k_38 {N d : Nat} {xs : Nat → Int32} {K : Nat → Nat × Nat} {I : Mem} {L : Nat → Nat → Int64} {R : Nat → Nat → Option Nat} {n s i : Nat} {v5 v6 : Value} {Q : Lo → Lm → Prop} (h : Sim N xs K I L R n) (hn : n + 6 ≤ lmCells) (hs : s + 876 ≤ lmSlots) (hi : i + 6 ≤ N) (hN : N ≤ 3072) (h5 : isL v5 = false) (h6 : isL v6 = false) (kk : NxT N xs (d + 40) Q i n s) : WP (d + 40) F_369 2062 [.ref lmScr, .ref 0, .ref 318, .ref 337, .int (nI i), v5, v6] [] (K, I, L, R, n, s) Q := by
  have hsc := h.1.2.2.2.1
  have hxs := h.1.2.2.2.2.1.1
  have hT := h.1.1
  refine wp_aload1 (pc' := 2063) rfl rfl ?_
  refine wp_callV1 (pc' := 2066) rfl rfl rfl rfl rfl (TK.k1 hT rfl) rfl rfl ?_
  refine Ok.mono (Nat.le_refl _) (o_richest h) (fun o t hA => ?_)
  obtain ⟨v, rfl, hOk, hm1, hm2, hm3⟩ := hA
  obtain ⟨K1, I1, L1, R1, n1, s1⟩ := t
  refine Cont.v ?_
  refine wp_aload2 (pc' := 2067) rfl rfl ?_
  refine wp_callV1 (pc' := 2070) rfl rfl rfl rfl rfl hm3 rfl rfl ?_
  refine Ok.mono (Nat.le_refl _) hOk (fun o t hA => ?_)
  obtain ⟨rfl, hS2, hn2, hs2⟩ := hA
  obtain ⟨K2, I2, L2, R2, n2, s2⟩ := t
  refine Cont.v ?_
  refine wp_icmpeqT rfl rfl ?_
  exact kk K2 I2 L2 R2 n2 s2 _ _ h5 h6 hS2 hn2 hs2
theorem k_39 {N d : Nat} {xs : Nat → Int32} {K : Nat → Nat × Nat} {I : Mem} {L : Nat → Nat → Int64} {R : Nat → Nat → Option Nat} {n s i : Nat} {v5 v6 : Value} {Q : Lo → Lm → Prop} (h : Sim N xs K I L R n) (hn : n + 6 ≤ lmCells) (hs : s + 876 ≤ lmSlots) (hi : i + 6 ≤ N) (hN : N ≤ 3072) (h5 : isL v5 = false) (h6 : isL v6 = false) (kk : NxT N xs (d + 40) Q i n s) : WP (d + 40) F_369 2075 [.ref lmScr, .ref 0, .ref 318, .ref 337, .int (nI i), v5, v6] [] (K, I, L, R, n, s) Q := by
  have hsc := h.1.2.2.2.1
  have hxs := h.1.2.2.2.2.1.1
  have hT := h.1.1
  refine wp_aload1 (pc' := 2076) rfl rfl ?_
  refine wp_callV1 (pc' := 2079) rfl rfl rfl rfl rfl (TK.k1 hT rfl) rfl rfl ?_
  refine Ok.mono (Nat.le_refl _) (o_cold h) (fun o t hA => ?_)
  obtain ⟨v, rfl, hOk, hm1, hm2, hm3⟩ := hA
  obtain ⟨K1, I1, L1, R1, n1, s1⟩ := t
  refine Cont.v ?_
  refine wp_aload2 (pc' := 2080) rfl rfl ?_
  refine wp_callV1 (pc' := 2083) rfl rfl rfl rfl rfl hm3 rfl rfl ?_
  refine Ok.mono (Nat.le_refl _) hOk (fun o t hA => ?_)
  obtain ⟨rfl, hS2, hn2, hs2⟩ := hA
  obtain ⟨K2, I2, L2, R2, n2, s2⟩ := t
  refine Cont.v ?_
  refine wp_icmpeqT rfl rfl ?_
  exact kk K2 I2 L2 R2 n2 s2 _ _ h5 h6 hS2 hn2 hs2
theorem k_40 {N d : Nat} {xs : Nat → Int32} {K : Nat → Nat × Nat} {I : Mem} {L : Nat → Nat → Int64} {R : Nat → Nat → Option Nat} {n s i : Nat} {v5 v6 : Value} {Q : Lo → Lm → Prop} (h : Sim N xs K I L R n) (hn : n + 6 ≤ lmCells) (hs : s + 876 ≤ lmSlots) (hi : i + 6 ≤ N) (hN : N ≤ 3072) (h5 : isL v5 = false) (h6 : isL v6 = false) (kk : NxT N xs (d + 40) Q i n s) : WP (d + 40) F_369 2088 [.ref lmScr, .ref 0, .ref 318, .ref 337, .int (nI i), v5, v6] [] (K, I, L, R, n, s) Q := by
  have hsc := h.1.2.2.2.1
  have hxs := h.1.2.2.2.2.1.1
  have hT := h.1.1
  refine wp_aload1 (pc' := 2089) rfl rfl ?_
  refine wp_callV1 (pc' := 2092) rfl rfl rfl rfl rfl (TK.k1 hT rfl) rfl rfl ?_
  refine Ok.mono (Nat.le_refl _) (o_twins h) (fun o t hA => ?_)
  obtain ⟨v, rfl, hOk, hm1, hm2, hm3⟩ := hA
  obtain ⟨K1, I1, L1, R1, n1, s1⟩ := t
  refine Cont.v ?_
  refine wp_aload2 (pc' := 2093) rfl rfl ?_
  refine wp_callV1 (pc' := 2096) rfl rfl rfl rfl rfl hm3 rfl rfl ?_
  refine Ok.mono (Nat.le_refl _) hOk (fun o t hA => ?_)
  obtain ⟨rfl, hS2, hn2, hs2⟩ := hA
  obtain ⟨K2, I2, L2, R2, n2, s2⟩ := t
  refine Cont.v ?_
  refine wp_icmpeqT rfl rfl ?_
  exact kk K2 I2 L2 R2 n2 s2 _ _ h5 h6 hS2 hn2 hs2
theorem k_41 {N d : Nat} {xs : Nat → Int32} {K : Nat → Nat × Nat} {I : Mem} {L : Nat → Nat → Int64} {R : Nat → Nat → Option Nat} {n s i : Nat} {v5 v6 : Value} {Q : Lo → Lm → Prop} (h : Sim N xs K I L R n) (hn : n + 6 ≤ lmCells) (hs : s + 876 ≤ lmSlots) (hi : i + 6 ≤ N) (hN : N ≤ 3072) (h5 : isL v5 = false) (h6 : isL v6 = false) (kk : NxT N xs (d + 40) Q i n s) : WP (d + 40) F_369 2101 [.ref lmScr, .ref 0, .ref 318, .ref 337, .int (nI i), v5, v6] [] (K, I, L, R, n, s) Q := by
  have hsc := h.1.2.2.2.1
  have hxs := h.1.2.2.2.2.1.1
  have hT := h.1.1
  refine wp_aload1 (pc' := 2102) rfl rfl ?_
  refine wp_callV1 (pc' := 2105) rfl rfl rfl rfl rfl (TK.k1 hT rfl) rfl rfl ?_
  refine Ok.mono (Nat.le_refl _) (o_waste h) (fun o t hA => ?_)
  obtain ⟨v, rfl, hOk, hm1, hm2, hm3⟩ := hA
  obtain ⟨K1, I1, L1, R1, n1, s1⟩ := t
  refine Cont.v ?_
  refine wp_aload2 (pc' := 2106) rfl rfl ?_
  refine wp_callV1 (pc' := 2109) rfl rfl rfl rfl rfl hm3 rfl rfl ?_
  refine Ok.mono (Nat.le_refl _) hOk (fun o t hA => ?_)
  obtain ⟨rfl, hS2, hn2, hs2⟩ := hA
  obtain ⟨K2, I2, L2, R2, n2, s2⟩ := t
  refine Cont.v ?_
  refine wp_icmpeqT rfl rfl ?_
  exact kk K2 I2 L2 R2 n2 s2 _ _ h5 h6 hS2 hn2 hs2
theorem k_42 {N d : Nat} {xs : Nat → Int32} {K : Nat → Nat × Nat} {I : Mem} {L : Nat → Nat → Int64} {R : Nat → Nat → Option Nat} {n s i : Nat} {v5 v6 : Value} {Q : Lo → Lm → Prop} (h : Sim N xs K I L R n) (hn : n + 6 ≤ lmCells) (hs : s + 876 ≤ lmSlots) (hi : i + 6 ≤ N) (hN : N ≤ 3072) (h5 : isL v5 = false) (h6 : isL v6 = false) (kk : NxT N xs (d + 40) Q i n s) : WP (d + 40) F_369 2114 [.ref lmScr, .ref 0, .ref 318, .ref 337, .int (nI i), v5, v6] [] (K, I, L, R, n, s) Q := by
  have hsc := h.1.2.2.2.1
  have hxs := h.1.2.2.2.2.1.1
  have hT := h.1.1
  refine wp_aload1 (pc' := 2115) rfl rfl ?_
  refine wp_aload0 (pc' := 2116) rfl rfl ?_
  refine wp_iload4 (pc' := 2118) rfl rfl ?_
  refine wp_iconst (v := nI 1) (pc' := 2119) rfl rfl rfl ?_
  refine wp_iaddN (pc' := 2120) rfl rfl rfl rfl ?_
  refine wp_iald (i + 1) (pc' := 2121) rfl hsc rfl (by omega) (by omega) rfl ?_
  rw [show I lmScr (i + 1) = xs (i + 1) from hxs (i + 1)]
  refine wp_aload3 (pc' := 2122) rfl rfl ?_
  refine wp_callS3 (pc' := 2125) rfl rfl rfl rfl rfl rfl ?_
  refine Ok.mono (Nat.le_refl _) (o_staged h hn hs) (fun o t hA => ?_)
  obtain ⟨k, hk4, rfl, hOk, hm1, hm2, hm3⟩ := hA
  obtain ⟨K1, I1, L1, R1, n1, s1⟩ := t
  refine Cont.v ?_
  refine wp_istore5 (pc' := 2127) rfl rfl rfl ?_
  refine wp_aload2 (pc' := 2128) rfl rfl ?_
  refine wp_aload0 (pc' := 2129) rfl rfl ?_
  refine wp_iload4 (pc' := 2131) rfl rfl ?_
  refine wp_iconst (v := nI 1) (pc' := 2132) rfl rfl rfl ?_
  refine wp_iaddN (pc' := 2133) rfl rfl rfl rfl ?_
  refine wp_iald (i + 1) (pc' := 2134) rfl hm1 rfl (by omega) (by omega) rfl ?_
  rw [show I1 lmScr (i + 1) = xs (i + 1) from hm2 (i + 1)]
  refine wp_callV2 (pc' := 2137) rfl rfl rfl rfl rfl hm3 rfl rfl ?_
  refine Ok.mono (Nat.le_refl _) hOk (fun o t hA => ?_)
  obtain ⟨b, rfl, hb0, hbv, hS2, hn2, hs2⟩ := hA
  obtain ⟨K2, I2, L2, R2, n2, s2⟩ := t
  have hT2 : TK K2 R2 n2 := hS2.1.1
  refine Cont.v ?_
  refine wp_istore6 (pc' := 2139) rfl rfl rfl ?_
  refine wp_aload2 (pc' := 2140) rfl rfl ?_
  refine wp_callV1 (pc' := 2143) rfl rfl rfl rfl rfl (TK.k1 hT2 rfl) rfl rfl ?_
  refine m_thrown (d := d + 39) hT2 ?_
  rw [show I2 318 0 = nI k from hb0]
  refine Cont.v ?_
  refine wp_iload5 (pc' := 2145) rfl rfl ?_
  refine wp_icmpeqT rfl rfl ?_
  refine wp_iload5 (pc' := 2152) rfl rfl ?_
  by_cases hk : k = 0
  · subst hk
    refine wp_ifneF (pc' := 2155) rfl rfl rfl ?_
    refine wp_aload3 (pc' := 2156) rfl rfl ?_
    refine wp_iconst (v := nI 0) (pc' := 2157) rfl rfl rfl ?_
    refine wp_lald 0 (pc' := 2158) rfl (TK.kk hT2 rfl) rfl (by decide) (by decide) rfl ?_
    refine wp_iload6 (pc' := 2160) rfl rfl ?_
    refine wp_i2l (pc' := 2161) rfl rfl ?_
    refine wp_lcmp (pc' := 2162) rfl rfl ?_
    refine wp_ifeqT rfl (lg_eq (hbv rfl)) ?_
    refine wp_goto rfl ?_
    exact kk K2 I2 L2 R2 n2 s2 _ _ rfl rfl hS2 hn2 hs2
  · refine wp_ifneT rfl (fun e => hk (eq_nI e (by omega) (by decide))) ?_
    refine wp_goto rfl ?_
    exact kk K2 I2 L2 R2 n2 s2 _ _ rfl rfl hS2 hn2 hs2
theorem k_43 {N d : Nat} {xs : Nat → Int32} {K : Nat → Nat × Nat} {I : Mem} {L : Nat → Nat → Int64} {R : Nat → Nat → Option Nat} {n s i : Nat} {v5 v6 : Value} {Q : Lo → Lm → Prop} (h : Sim N xs K I L R n) (hn : n + 6 ≤ lmCells) (hs : s + 876 ≤ lmSlots) (hi : i + 6 ≤ N) (hN : N ≤ 3072) (h5 : isL v5 = false) (h6 : isL v6 = false) (kk : NxT N xs (d + 40) Q i n s) : WP (d + 40) F_369 2170 [.ref lmScr, .ref 0, .ref 318, .ref 337, .int (nI i), v5, v6] [] (K, I, L, R, n, s) Q := by
  have hsc := h.1.2.2.2.1
  have hxs := h.1.2.2.2.2.1.1
  have hT := h.1.1
  refine wp_aload1 (pc' := 2171) rfl rfl ?_
  refine wp_aload0 (pc' := 2172) rfl rfl ?_
  refine wp_iload4 (pc' := 2174) rfl rfl ?_
  refine wp_iconst (v := nI 1) (pc' := 2175) rfl rfl rfl ?_
  refine wp_iaddN (pc' := 2176) rfl rfl rfl rfl ?_
  refine wp_iald (i + 1) (pc' := 2177) rfl hsc rfl (by omega) (by omega) rfl ?_
  rw [show I lmScr (i + 1) = xs (i + 1) from hxs (i + 1)]
  refine wp_aload0 (pc' := 2178) rfl rfl ?_
  refine wp_iload4 (pc' := 2180) rfl rfl ?_
  refine wp_iconst (v := nI 2) (pc' := 2181) rfl rfl rfl ?_
  refine wp_iaddN (pc' := 2182) rfl rfl rfl rfl ?_
  refine wp_iald (i + 2) (pc' := 2183) rfl hsc rfl (by omega) (by omega) rfl ?_
  rw [show I lmScr (i + 2) = xs (i + 2) from hxs (i + 2)]
  refine wp_aload0 (pc' := 2184) rfl rfl ?_
  refine wp_iload4 (pc' := 2186) rfl rfl ?_
  refine wp_iconst (v := nI 3) (pc' := 2187) rfl rfl rfl ?_
  refine wp_iaddN (pc' := 2188) rfl rfl rfl rfl ?_
  refine wp_iald (i + 3) (pc' := 2189) rfl hsc rfl (by omega) (by omega) rfl ?_
  rw [show I lmScr (i + 3) = xs (i + 3) from hxs (i + 3)]
  refine wp_aload3 (pc' := 2190) rfl rfl ?_
  refine wp_callS5 (pc' := 2193) rfl rfl rfl rfl rfl rfl ?_
  refine Ok.mono (Nat.le_refl _) (o_ahead h hn hs) (fun o t hA => ?_)
  obtain ⟨k, hk4, rfl, hOk, hm1, hm2, hm3⟩ := hA
  obtain ⟨K1, I1, L1, R1, n1, s1⟩ := t
  refine Cont.v ?_
  refine wp_istore5 (pc' := 2195) rfl rfl rfl ?_
  refine wp_aload2 (pc' := 2196) rfl rfl ?_
  refine wp_aload0 (pc' := 2197) rfl rfl ?_
  refine wp_iload4 (pc' := 2199) rfl rfl ?_
  refine wp_iconst (v := nI 1) (pc' := 2200) rfl rfl rfl ?_
  refine wp_iaddN (pc' := 2201) rfl rfl rfl rfl ?_
  refine wp_iald (i + 1) (pc' := 2202) rfl hm1 rfl (by omega) (by omega) rfl ?_
  rw [show I1 lmScr (i + 1) = xs (i + 1) from hm2 (i + 1)]
  refine wp_aload0 (pc' := 2203) rfl rfl ?_
  refine wp_iload4 (pc' := 2205) rfl rfl ?_
  refine wp_iconst (v := nI 2) (pc' := 2206) rfl rfl rfl ?_
  refine wp_iaddN (pc' := 2207) rfl rfl rfl rfl ?_
  refine wp_iald (i + 2) (pc' := 2208) rfl hm1 rfl (by omega) (by omega) rfl ?_
  rw [show I1 lmScr (i + 2) = xs (i + 2) from hm2 (i + 2)]
  refine wp_aload0 (pc' := 2209) rfl rfl ?_
  refine wp_iload4 (pc' := 2211) rfl rfl ?_
  refine wp_iconst (v := nI 3) (pc' := 2212) rfl rfl rfl ?_
  refine wp_iaddN (pc' := 2213) rfl rfl rfl rfl ?_
  refine wp_iald (i + 3) (pc' := 2214) rfl hm1 rfl (by omega) (by omega) rfl ?_
  rw [show I1 lmScr (i + 3) = xs (i + 3) from hm2 (i + 3)]
  refine wp_callV4 (pc' := 2217) rfl rfl rfl rfl rfl hm3 rfl rfl ?_
  refine Ok.mono (Nat.le_refl _) hOk (fun o t hA => ?_)
  obtain ⟨b, rfl, hb0, hbv, hS2, hn2, hs2⟩ := hA
  obtain ⟨K2, I2, L2, R2, n2, s2⟩ := t
  have hT2 : TK K2 R2 n2 := hS2.1.1
  refine Cont.v ?_
  refine wp_istore6 (pc' := 2219) rfl rfl rfl ?_
  refine wp_aload2 (pc' := 2220) rfl rfl ?_
  refine wp_callV1 (pc' := 2223) rfl rfl rfl rfl rfl (TK.k1 hT2 rfl) rfl rfl ?_
  refine m_thrown (d := d + 39) hT2 ?_
  rw [show I2 318 0 = nI k from hb0]
  refine Cont.v ?_
  refine wp_iload5 (pc' := 2225) rfl rfl ?_
  refine wp_icmpeqT rfl rfl ?_
  refine wp_iload5 (pc' := 2232) rfl rfl ?_
  by_cases hk : k = 0
  · subst hk
    refine wp_ifneF (pc' := 2235) rfl rfl rfl ?_
    refine wp_aload3 (pc' := 2236) rfl rfl ?_
    refine wp_iconst (v := nI 0) (pc' := 2237) rfl rfl rfl ?_
    refine wp_lald 0 (pc' := 2238) rfl (TK.kk hT2 rfl) rfl (by decide) (by decide) rfl ?_
    refine wp_iload6 (pc' := 2240) rfl rfl ?_
    refine wp_i2l (pc' := 2241) rfl rfl ?_
    refine wp_lcmp (pc' := 2242) rfl rfl ?_
    refine wp_ifeqT rfl (lg_eq (hbv rfl)) ?_
    refine wp_goto rfl ?_
    exact kk K2 I2 L2 R2 n2 s2 _ _ rfl rfl hS2 hn2 hs2
  · refine wp_ifneT rfl (fun e => hk (eq_nI e (by omega) (by decide))) ?_
    refine wp_goto rfl ?_
    exact kk K2 I2 L2 R2 n2 s2 _ _ rfl rfl hS2 hn2 hs2
theorem k_44 {N d : Nat} {xs : Nat → Int32} {K : Nat → Nat × Nat} {I : Mem} {L : Nat → Nat → Int64} {R : Nat → Nat → Option Nat} {n s i : Nat} {v5 v6 : Value} {Q : Lo → Lm → Prop} (h : Sim N xs K I L R n) (hn : n + 6 ≤ lmCells) (hs : s + 876 ≤ lmSlots) (hi : i + 6 ≤ N) (hN : N ≤ 3072) (h5 : isL v5 = false) (h6 : isL v6 = false) (kk : NxT N xs (d + 40) Q i n s) : WP (d + 40) F_369 2250 [.ref lmScr, .ref 0, .ref 318, .ref 337, .int (nI i), v5, v6] [] (K, I, L, R, n, s) Q := by
  have hsc := h.1.2.2.2.1
  have hxs := h.1.2.2.2.2.1.1
  have hT := h.1.1
  refine wp_aload1 (pc' := 2251) rfl rfl ?_
  refine wp_aload0 (pc' := 2252) rfl rfl ?_
  refine wp_iload4 (pc' := 2254) rfl rfl ?_
  refine wp_iconst (v := nI 1) (pc' := 2255) rfl rfl rfl ?_
  refine wp_iaddN (pc' := 2256) rfl rfl rfl rfl ?_
  refine wp_iald (i + 1) (pc' := 2257) rfl hsc rfl (by omega) (by omega) rfl ?_
  rw [show I lmScr (i + 1) = xs (i + 1) from hxs (i + 1)]
  refine wp_aload0 (pc' := 2258) rfl rfl ?_
  refine wp_iload4 (pc' := 2260) rfl rfl ?_
  refine wp_iconst (v := nI 2) (pc' := 2261) rfl rfl rfl ?_
  refine wp_iaddN (pc' := 2262) rfl rfl rfl rfl ?_
  refine wp_iald (i + 2) (pc' := 2263) rfl hsc rfl (by omega) (by omega) rfl ?_
  rw [show I lmScr (i + 2) = xs (i + 2) from hxs (i + 2)]
  refine wp_ifeq (pc' := 2266) rfl rfl (fun hb => ?_) (fun hb => ?_)
  · skip
    refine wp_iconst (v := nI 0) (pc' := 2271) rfl rfl rfl ?_
    refine wp_aload3 (pc' := 2272) rfl rfl ?_
    refine wp_callS4 (pc' := 2275) rfl rfl rfl rfl rfl rfl ?_
    refine Ok.mono (Nat.le_refl _) (o_trial0 h hn hs) (fun o t hA => ?_)
    obtain ⟨k, hk4, rfl, hOk, hm1, hm2, hm3⟩ := hA
    obtain ⟨K1, I1, L1, R1, n1, s1⟩ := t
    refine Cont.v ?_
    refine wp_istore5 (pc' := 2277) rfl rfl rfl ?_
    refine wp_aload2 (pc' := 2278) rfl rfl ?_
    refine wp_aload0 (pc' := 2279) rfl rfl ?_
    refine wp_iload4 (pc' := 2281) rfl rfl ?_
    refine wp_iconst (v := nI 1) (pc' := 2282) rfl rfl rfl ?_
    refine wp_iaddN (pc' := 2283) rfl rfl rfl rfl ?_
    refine wp_iald (i + 1) (pc' := 2284) rfl hm1 rfl (by omega) (by omega) rfl ?_
    rw [show I1 lmScr (i + 1) = xs (i + 1) from hm2 (i + 1)]
    refine wp_aload0 (pc' := 2285) rfl rfl ?_
    refine wp_iload4 (pc' := 2287) rfl rfl ?_
    refine wp_iconst (v := nI 2) (pc' := 2288) rfl rfl rfl ?_
    refine wp_iaddN (pc' := 2289) rfl rfl rfl rfl ?_
    refine wp_iald (i + 2) (pc' := 2290) rfl hm1 rfl (by omega) (by omega) rfl ?_
    rw [show I1 lmScr (i + 2) = xs (i + 2) from hm2 (i + 2)]
    refine wp_ifeqT rfl hb ?_
    refine wp_iconst (v := nI 0) (pc' := 2298) rfl rfl rfl ?_
    refine wp_callV3 (pc' := 2301) rfl rfl rfl rfl rfl hm3 rfl rfl ?_
    refine Ok.mono (Nat.le_refl _) hOk (fun o t hA => ?_)
    obtain ⟨b, rfl, hb0, hbv, hS2, hn2, hs2⟩ := hA
    obtain ⟨K2, I2, L2, R2, n2, s2⟩ := t
    have hT2 : TK K2 R2 n2 := hS2.1.1
    refine Cont.v ?_
    refine wp_istore6 (pc' := 2303) rfl rfl rfl ?_
    refine wp_aload2 (pc' := 2304) rfl rfl ?_
    refine wp_callV1 (pc' := 2307) rfl rfl rfl rfl rfl (TK.k1 hT2 rfl) rfl rfl ?_
    refine m_thrown (d := d + 39) hT2 ?_
    rw [show I2 318 0 = nI k from hb0]
    refine Cont.v ?_
    refine wp_iload5 (pc' := 2309) rfl rfl ?_
    refine wp_icmpeqT rfl rfl ?_
    refine wp_iload5 (pc' := 2316) rfl rfl ?_
    by_cases hk : k = 0
    · subst hk
      refine wp_ifneF (pc' := 2319) rfl rfl rfl ?_
      refine wp_aload3 (pc' := 2320) rfl rfl ?_
      refine wp_iconst (v := nI 0) (pc' := 2321) rfl rfl rfl ?_
      refine wp_lald 0 (pc' := 2322) rfl (TK.kk hT2 rfl) rfl (by decide) (by decide) rfl ?_
      refine wp_iload6 (pc' := 2324) rfl rfl ?_
      refine wp_i2l (pc' := 2325) rfl rfl ?_
      refine wp_lcmp (pc' := 2326) rfl rfl ?_
      refine wp_ifeqT rfl (lg_eq (hbv rfl)) ?_
      refine wp_goto rfl ?_
      exact kk K2 I2 L2 R2 n2 s2 _ _ rfl rfl hS2 hn2 hs2
    · refine wp_ifneT rfl (fun e => hk (eq_nI e (by omega) (by decide))) ?_
      refine wp_goto rfl ?_
      exact kk K2 I2 L2 R2 n2 s2 _ _ rfl rfl hS2 hn2 hs2
  · skip
    refine wp_iconst (v := nI 1) (pc' := 2267) rfl rfl rfl ?_
    refine wp_goto rfl ?_
    refine wp_aload3 (pc' := 2272) rfl rfl ?_
    refine wp_callS4 (pc' := 2275) rfl rfl rfl rfl rfl rfl ?_
    refine Ok.mono (Nat.le_refl _) (o_trial1 h hn hs) (fun o t hA => ?_)
    obtain ⟨k, hk4, rfl, hOk, hm1, hm2, hm3⟩ := hA
    obtain ⟨K1, I1, L1, R1, n1, s1⟩ := t
    refine Cont.v ?_
    refine wp_istore5 (pc' := 2277) rfl rfl rfl ?_
    refine wp_aload2 (pc' := 2278) rfl rfl ?_
    refine wp_aload0 (pc' := 2279) rfl rfl ?_
    refine wp_iload4 (pc' := 2281) rfl rfl ?_
    refine wp_iconst (v := nI 1) (pc' := 2282) rfl rfl rfl ?_
    refine wp_iaddN (pc' := 2283) rfl rfl rfl rfl ?_
    refine wp_iald (i + 1) (pc' := 2284) rfl hm1 rfl (by omega) (by omega) rfl ?_
    rw [show I1 lmScr (i + 1) = xs (i + 1) from hm2 (i + 1)]
    refine wp_aload0 (pc' := 2285) rfl rfl ?_
    refine wp_iload4 (pc' := 2287) rfl rfl ?_
    refine wp_iconst (v := nI 2) (pc' := 2288) rfl rfl rfl ?_
    refine wp_iaddN (pc' := 2289) rfl rfl rfl rfl ?_
    refine wp_iald (i + 2) (pc' := 2290) rfl hm1 rfl (by omega) (by omega) rfl ?_
    rw [show I1 lmScr (i + 2) = xs (i + 2) from hm2 (i + 2)]
    refine wp_ifeqF (pc' := 2293) rfl hb rfl ?_
    refine wp_iconst (v := nI 1) (pc' := 2294) rfl rfl rfl ?_
    refine wp_goto rfl ?_
    refine wp_callV3 (pc' := 2301) rfl rfl rfl rfl rfl hm3 rfl rfl ?_
    refine Ok.mono (Nat.le_refl _) hOk (fun o t hA => ?_)
    obtain ⟨b, rfl, hb0, hbv, hS2, hn2, hs2⟩ := hA
    obtain ⟨K2, I2, L2, R2, n2, s2⟩ := t
    have hT2 : TK K2 R2 n2 := hS2.1.1
    refine Cont.v ?_
    refine wp_istore6 (pc' := 2303) rfl rfl rfl ?_
    refine wp_aload2 (pc' := 2304) rfl rfl ?_
    refine wp_callV1 (pc' := 2307) rfl rfl rfl rfl rfl (TK.k1 hT2 rfl) rfl rfl ?_
    refine m_thrown (d := d + 39) hT2 ?_
    rw [show I2 318 0 = nI k from hb0]
    refine Cont.v ?_
    refine wp_iload5 (pc' := 2309) rfl rfl ?_
    refine wp_icmpeqT rfl rfl ?_
    refine wp_iload5 (pc' := 2316) rfl rfl ?_
    by_cases hk : k = 0
    · subst hk
      refine wp_ifneF (pc' := 2319) rfl rfl rfl ?_
      refine wp_aload3 (pc' := 2320) rfl rfl ?_
      refine wp_iconst (v := nI 0) (pc' := 2321) rfl rfl rfl ?_
      refine wp_lald 0 (pc' := 2322) rfl (TK.kk hT2 rfl) rfl (by decide) (by decide) rfl ?_
      refine wp_iload6 (pc' := 2324) rfl rfl ?_
      refine wp_i2l (pc' := 2325) rfl rfl ?_
      refine wp_lcmp (pc' := 2326) rfl rfl ?_
      refine wp_ifeqT rfl (lg_eq (hbv rfl)) ?_
      refine wp_goto rfl ?_
      exact kk K2 I2 L2 R2 n2 s2 _ _ rfl rfl hS2 hn2 hs2
    · refine wp_ifneT rfl (fun e => hk (eq_nI e (by omega) (by decide))) ?_
      refine wp_goto rfl ?_
      exact kk K2 I2 L2 R2 n2 s2 _ _ rfl rfl hS2 hn2 hs2
theorem k_45 {N d : Nat} {xs : Nat → Int32} {K : Nat → Nat × Nat} {I : Mem} {L : Nat → Nat → Int64} {R : Nat → Nat → Option Nat} {n s i : Nat} {v5 v6 : Value} {Q : Lo → Lm → Prop} (h : Sim N xs K I L R n) (hn : n + 6 ≤ lmCells) (hs : s + 876 ≤ lmSlots) (hi : i + 6 ≤ N) (hN : N ≤ 3072) (h5 : isL v5 = false) (h6 : isL v6 = false) (kk : NxT N xs (d + 40) Q i n s) : WP (d + 40) F_369 2334 [.ref lmScr, .ref 0, .ref 318, .ref 337, .int (nI i), v5, v6] [] (K, I, L, R, n, s) Q := by
  have hsc := h.1.2.2.2.1
  have hxs := h.1.2.2.2.2.1.1
  have hT := h.1.1
  refine wp_aload1 (pc' := 2335) rfl rfl ?_
  refine wp_aload0 (pc' := 2336) rfl rfl ?_
  refine wp_iload4 (pc' := 2338) rfl rfl ?_
  refine wp_iconst (v := nI 1) (pc' := 2339) rfl rfl rfl ?_
  refine wp_iaddN (pc' := 2340) rfl rfl rfl rfl ?_
  refine wp_iald (i + 1) (pc' := 2341) rfl hsc rfl (by omega) (by omega) rfl ?_
  rw [show I lmScr (i + 1) = xs (i + 1) from hxs (i + 1)]
  refine wp_aload0 (pc' := 2342) rfl rfl ?_
  refine wp_iload4 (pc' := 2344) rfl rfl ?_
  refine wp_iconst (v := nI 2) (pc' := 2345) rfl rfl rfl ?_
  refine wp_iaddN (pc' := 2346) rfl rfl rfl rfl ?_
  refine wp_iald (i + 2) (pc' := 2347) rfl hsc rfl (by omega) (by omega) rfl ?_
  rw [show I lmScr (i + 2) = xs (i + 2) from hxs (i + 2)]
  refine wp_ifeq (pc' := 2350) rfl rfl (fun hb => ?_) (fun hb => ?_)
  · skip
    refine wp_iconst (v := nI 0) (pc' := 2355) rfl rfl rfl ?_
    refine wp_aload3 (pc' := 2356) rfl rfl ?_
    refine wp_callS4 (pc' := 2359) rfl rfl rfl rfl rfl rfl ?_
    refine Ok.mono (Nat.le_refl _) (o_span0 h hn hs) (fun o t hA => ?_)
    obtain ⟨k, hk4, rfl, hOk, hm1, hm2, hm3⟩ := hA
    obtain ⟨K1, I1, L1, R1, n1, s1⟩ := t
    refine Cont.v ?_
    refine wp_istore5 (pc' := 2361) rfl rfl rfl ?_
    refine wp_aload2 (pc' := 2362) rfl rfl ?_
    refine wp_aload0 (pc' := 2363) rfl rfl ?_
    refine wp_iload4 (pc' := 2365) rfl rfl ?_
    refine wp_iconst (v := nI 1) (pc' := 2366) rfl rfl rfl ?_
    refine wp_iaddN (pc' := 2367) rfl rfl rfl rfl ?_
    refine wp_iald (i + 1) (pc' := 2368) rfl hm1 rfl (by omega) (by omega) rfl ?_
    rw [show I1 lmScr (i + 1) = xs (i + 1) from hm2 (i + 1)]
    refine wp_aload0 (pc' := 2369) rfl rfl ?_
    refine wp_iload4 (pc' := 2371) rfl rfl ?_
    refine wp_iconst (v := nI 2) (pc' := 2372) rfl rfl rfl ?_
    refine wp_iaddN (pc' := 2373) rfl rfl rfl rfl ?_
    refine wp_iald (i + 2) (pc' := 2374) rfl hm1 rfl (by omega) (by omega) rfl ?_
    rw [show I1 lmScr (i + 2) = xs (i + 2) from hm2 (i + 2)]
    refine wp_ifeqT rfl hb ?_
    refine wp_iconst (v := nI 0) (pc' := 2382) rfl rfl rfl ?_
    refine wp_callV3 (pc' := 2385) rfl rfl rfl rfl rfl hm3 rfl rfl ?_
    refine Ok.mono (Nat.le_refl _) hOk (fun o t hA => ?_)
    obtain ⟨b, rfl, hb0, hbv, hS2, hn2, hs2⟩ := hA
    obtain ⟨K2, I2, L2, R2, n2, s2⟩ := t
    have hT2 : TK K2 R2 n2 := hS2.1.1
    refine Cont.v ?_
    refine wp_istore6 (pc' := 2387) rfl rfl rfl ?_
    refine wp_aload2 (pc' := 2388) rfl rfl ?_
    refine wp_callV1 (pc' := 2391) rfl rfl rfl rfl rfl (TK.k1 hT2 rfl) rfl rfl ?_
    refine m_thrown (d := d + 39) hT2 ?_
    rw [show I2 318 0 = nI k from hb0]
    refine Cont.v ?_
    refine wp_iload5 (pc' := 2393) rfl rfl ?_
    refine wp_icmpeqT rfl rfl ?_
    refine wp_iload5 (pc' := 2400) rfl rfl ?_
    by_cases hk : k = 0
    · subst hk
      refine wp_ifneF (pc' := 2403) rfl rfl rfl ?_
      refine wp_aload3 (pc' := 2404) rfl rfl ?_
      refine wp_iconst (v := nI 0) (pc' := 2405) rfl rfl rfl ?_
      refine wp_lald 0 (pc' := 2406) rfl (TK.kk hT2 rfl) rfl (by decide) (by decide) rfl ?_
      refine wp_iload6 (pc' := 2408) rfl rfl ?_
      refine wp_i2l (pc' := 2409) rfl rfl ?_
      refine wp_lcmp (pc' := 2410) rfl rfl ?_
      refine wp_ifeqT rfl (lg_eq (hbv rfl)) ?_
      refine wp_goto rfl ?_
      exact kk K2 I2 L2 R2 n2 s2 _ _ rfl rfl hS2 hn2 hs2
    · refine wp_ifneT rfl (fun e => hk (eq_nI e (by omega) (by decide))) ?_
      refine wp_goto rfl ?_
      exact kk K2 I2 L2 R2 n2 s2 _ _ rfl rfl hS2 hn2 hs2
  · skip
    refine wp_iconst (v := nI 1) (pc' := 2351) rfl rfl rfl ?_
    refine wp_goto rfl ?_
    refine wp_aload3 (pc' := 2356) rfl rfl ?_
    refine wp_callS4 (pc' := 2359) rfl rfl rfl rfl rfl rfl ?_
    refine Ok.mono (Nat.le_refl _) (o_span1 h hn hs) (fun o t hA => ?_)
    obtain ⟨k, hk4, rfl, hOk, hm1, hm2, hm3⟩ := hA
    obtain ⟨K1, I1, L1, R1, n1, s1⟩ := t
    refine Cont.v ?_
    refine wp_istore5 (pc' := 2361) rfl rfl rfl ?_
    refine wp_aload2 (pc' := 2362) rfl rfl ?_
    refine wp_aload0 (pc' := 2363) rfl rfl ?_
    refine wp_iload4 (pc' := 2365) rfl rfl ?_
    refine wp_iconst (v := nI 1) (pc' := 2366) rfl rfl rfl ?_
    refine wp_iaddN (pc' := 2367) rfl rfl rfl rfl ?_
    refine wp_iald (i + 1) (pc' := 2368) rfl hm1 rfl (by omega) (by omega) rfl ?_
    rw [show I1 lmScr (i + 1) = xs (i + 1) from hm2 (i + 1)]
    refine wp_aload0 (pc' := 2369) rfl rfl ?_
    refine wp_iload4 (pc' := 2371) rfl rfl ?_
    refine wp_iconst (v := nI 2) (pc' := 2372) rfl rfl rfl ?_
    refine wp_iaddN (pc' := 2373) rfl rfl rfl rfl ?_
    refine wp_iald (i + 2) (pc' := 2374) rfl hm1 rfl (by omega) (by omega) rfl ?_
    rw [show I1 lmScr (i + 2) = xs (i + 2) from hm2 (i + 2)]
    refine wp_ifeqF (pc' := 2377) rfl hb rfl ?_
    refine wp_iconst (v := nI 1) (pc' := 2378) rfl rfl rfl ?_
    refine wp_goto rfl ?_
    refine wp_callV3 (pc' := 2385) rfl rfl rfl rfl rfl hm3 rfl rfl ?_
    refine Ok.mono (Nat.le_refl _) hOk (fun o t hA => ?_)
    obtain ⟨b, rfl, hb0, hbv, hS2, hn2, hs2⟩ := hA
    obtain ⟨K2, I2, L2, R2, n2, s2⟩ := t
    have hT2 : TK K2 R2 n2 := hS2.1.1
    refine Cont.v ?_
    refine wp_istore6 (pc' := 2387) rfl rfl rfl ?_
    refine wp_aload2 (pc' := 2388) rfl rfl ?_
    refine wp_callV1 (pc' := 2391) rfl rfl rfl rfl rfl (TK.k1 hT2 rfl) rfl rfl ?_
    refine m_thrown (d := d + 39) hT2 ?_
    rw [show I2 318 0 = nI k from hb0]
    refine Cont.v ?_
    refine wp_iload5 (pc' := 2393) rfl rfl ?_
    refine wp_icmpeqT rfl rfl ?_
    refine wp_iload5 (pc' := 2400) rfl rfl ?_
    by_cases hk : k = 0
    · subst hk
      refine wp_ifneF (pc' := 2403) rfl rfl rfl ?_
      refine wp_aload3 (pc' := 2404) rfl rfl ?_
      refine wp_iconst (v := nI 0) (pc' := 2405) rfl rfl rfl ?_
      refine wp_lald 0 (pc' := 2406) rfl (TK.kk hT2 rfl) rfl (by decide) (by decide) rfl ?_
      refine wp_iload6 (pc' := 2408) rfl rfl ?_
      refine wp_i2l (pc' := 2409) rfl rfl ?_
      refine wp_lcmp (pc' := 2410) rfl rfl ?_
      refine wp_ifeqT rfl (lg_eq (hbv rfl)) ?_
      refine wp_goto rfl ?_
      exact kk K2 I2 L2 R2 n2 s2 _ _ rfl rfl hS2 hn2 hs2
    · refine wp_ifneT rfl (fun e => hk (eq_nI e (by omega) (by decide))) ?_
      refine wp_goto rfl ?_
      exact kk K2 I2 L2 R2 n2 s2 _ _ rfl rfl hS2 hn2 hs2
theorem k_46 {N d : Nat} {xs : Nat → Int32} {K : Nat → Nat × Nat} {I : Mem} {L : Nat → Nat → Int64} {R : Nat → Nat → Option Nat} {n s i : Nat} {v5 v6 : Value} {Q : Lo → Lm → Prop} (h : Sim N xs K I L R n) (hn : n + 6 ≤ lmCells) (hs : s + 876 ≤ lmSlots) (hi : i + 6 ≤ N) (hN : N ≤ 3072) (h5 : isL v5 = false) (h6 : isL v6 = false) (kk : NxT N xs (d + 40) Q i n s) : WP (d + 40) F_369 2418 [.ref lmScr, .ref 0, .ref 318, .ref 337, .int (nI i), v5, v6] [] (K, I, L, R, n, s) Q := by
  have hsc := h.1.2.2.2.1
  have hxs := h.1.2.2.2.2.1.1
  have hT := h.1.1
  refine wp_aload1 (pc' := 2419) rfl rfl ?_
  refine wp_aload0 (pc' := 2420) rfl rfl ?_
  refine wp_iload4 (pc' := 2422) rfl rfl ?_
  refine wp_iconst (v := nI 1) (pc' := 2423) rfl rfl rfl ?_
  refine wp_iaddN (pc' := 2424) rfl rfl rfl rfl ?_
  refine wp_iald (i + 1) (pc' := 2425) rfl hsc rfl (by omega) (by omega) rfl ?_
  rw [show I lmScr (i + 1) = xs (i + 1) from hxs (i + 1)]
  refine wp_aload0 (pc' := 2426) rfl rfl ?_
  refine wp_iload4 (pc' := 2428) rfl rfl ?_
  refine wp_iconst (v := nI 2) (pc' := 2429) rfl rfl rfl ?_
  refine wp_iaddN (pc' := 2430) rfl rfl rfl rfl ?_
  refine wp_iald (i + 2) (pc' := 2431) rfl hsc rfl (by omega) (by omega) rfl ?_
  rw [show I lmScr (i + 2) = xs (i + 2) from hxs (i + 2)]
  refine wp_ifeq (pc' := 2434) rfl rfl (fun hb => ?_) (fun hb => ?_)
  · skip
    refine wp_iconst (v := nI 0) (pc' := 2439) rfl rfl rfl ?_
    refine wp_aload3 (pc' := 2440) rfl rfl ?_
    refine wp_callS4 (pc' := 2443) rfl rfl rfl rfl rfl rfl ?_
    refine Ok.mono (Nat.le_refl _) (o_led0 h hn hs) (fun o t hA => ?_)
    obtain ⟨k, hk4, rfl, hOk, hm1, hm2, hm3⟩ := hA
    obtain ⟨K1, I1, L1, R1, n1, s1⟩ := t
    refine Cont.v ?_
    refine wp_istore5 (pc' := 2445) rfl rfl rfl ?_
    refine wp_aload2 (pc' := 2446) rfl rfl ?_
    refine wp_aload0 (pc' := 2447) rfl rfl ?_
    refine wp_iload4 (pc' := 2449) rfl rfl ?_
    refine wp_iconst (v := nI 1) (pc' := 2450) rfl rfl rfl ?_
    refine wp_iaddN (pc' := 2451) rfl rfl rfl rfl ?_
    refine wp_iald (i + 1) (pc' := 2452) rfl hm1 rfl (by omega) (by omega) rfl ?_
    rw [show I1 lmScr (i + 1) = xs (i + 1) from hm2 (i + 1)]
    refine wp_aload0 (pc' := 2453) rfl rfl ?_
    refine wp_iload4 (pc' := 2455) rfl rfl ?_
    refine wp_iconst (v := nI 2) (pc' := 2456) rfl rfl rfl ?_
    refine wp_iaddN (pc' := 2457) rfl rfl rfl rfl ?_
    refine wp_iald (i + 2) (pc' := 2458) rfl hm1 rfl (by omega) (by omega) rfl ?_
    rw [show I1 lmScr (i + 2) = xs (i + 2) from hm2 (i + 2)]
    refine wp_ifeqT rfl hb ?_
    refine wp_iconst (v := nI 0) (pc' := 2466) rfl rfl rfl ?_
    refine wp_callV3 (pc' := 2469) rfl rfl rfl rfl rfl hm3 rfl rfl ?_
    refine Ok.mono (Nat.le_refl _) hOk (fun o t hA => ?_)
    obtain ⟨b, rfl, hb0, hbv, hS2, hn2, hs2⟩ := hA
    obtain ⟨K2, I2, L2, R2, n2, s2⟩ := t
    have hT2 : TK K2 R2 n2 := hS2.1.1
    refine Cont.v ?_
    refine wp_istore6 (pc' := 2471) rfl rfl rfl ?_
    refine wp_aload2 (pc' := 2472) rfl rfl ?_
    refine wp_callV1 (pc' := 2475) rfl rfl rfl rfl rfl (TK.k1 hT2 rfl) rfl rfl ?_
    refine m_thrown (d := d + 39) hT2 ?_
    rw [show I2 318 0 = nI k from hb0]
    refine Cont.v ?_
    refine wp_iload5 (pc' := 2477) rfl rfl ?_
    refine wp_icmpeqT rfl rfl ?_
    refine wp_iload5 (pc' := 2484) rfl rfl ?_
    by_cases hk : k = 0
    · subst hk
      refine wp_ifneF (pc' := 2487) rfl rfl rfl ?_
      refine wp_aload3 (pc' := 2488) rfl rfl ?_
      refine wp_iconst (v := nI 0) (pc' := 2489) rfl rfl rfl ?_
      refine wp_lald 0 (pc' := 2490) rfl (TK.kk hT2 rfl) rfl (by decide) (by decide) rfl ?_
      refine wp_iload6 (pc' := 2492) rfl rfl ?_
      refine wp_i2l (pc' := 2493) rfl rfl ?_
      refine wp_lcmp (pc' := 2494) rfl rfl ?_
      refine wp_ifeqT rfl (lg_eq (hbv rfl)) ?_
      refine wp_goto rfl ?_
      exact kk K2 I2 L2 R2 n2 s2 _ _ rfl rfl hS2 hn2 hs2
    · refine wp_ifneT rfl (fun e => hk (eq_nI e (by omega) (by decide))) ?_
      refine wp_goto rfl ?_
      exact kk K2 I2 L2 R2 n2 s2 _ _ rfl rfl hS2 hn2 hs2
  · skip
    refine wp_iconst (v := nI 1) (pc' := 2435) rfl rfl rfl ?_
    refine wp_goto rfl ?_
    refine wp_aload3 (pc' := 2440) rfl rfl ?_
    refine wp_callS4 (pc' := 2443) rfl rfl rfl rfl rfl rfl ?_
    refine Ok.mono (Nat.le_refl _) (o_led1 h hn hs) (fun o t hA => ?_)
    obtain ⟨k, hk4, rfl, hOk, hm1, hm2, hm3⟩ := hA
    obtain ⟨K1, I1, L1, R1, n1, s1⟩ := t
    refine Cont.v ?_
    refine wp_istore5 (pc' := 2445) rfl rfl rfl ?_
    refine wp_aload2 (pc' := 2446) rfl rfl ?_
    refine wp_aload0 (pc' := 2447) rfl rfl ?_
    refine wp_iload4 (pc' := 2449) rfl rfl ?_
    refine wp_iconst (v := nI 1) (pc' := 2450) rfl rfl rfl ?_
    refine wp_iaddN (pc' := 2451) rfl rfl rfl rfl ?_
    refine wp_iald (i + 1) (pc' := 2452) rfl hm1 rfl (by omega) (by omega) rfl ?_
    rw [show I1 lmScr (i + 1) = xs (i + 1) from hm2 (i + 1)]
    refine wp_aload0 (pc' := 2453) rfl rfl ?_
    refine wp_iload4 (pc' := 2455) rfl rfl ?_
    refine wp_iconst (v := nI 2) (pc' := 2456) rfl rfl rfl ?_
    refine wp_iaddN (pc' := 2457) rfl rfl rfl rfl ?_
    refine wp_iald (i + 2) (pc' := 2458) rfl hm1 rfl (by omega) (by omega) rfl ?_
    rw [show I1 lmScr (i + 2) = xs (i + 2) from hm2 (i + 2)]
    refine wp_ifeqF (pc' := 2461) rfl hb rfl ?_
    refine wp_iconst (v := nI 1) (pc' := 2462) rfl rfl rfl ?_
    refine wp_goto rfl ?_
    refine wp_callV3 (pc' := 2469) rfl rfl rfl rfl rfl hm3 rfl rfl ?_
    refine Ok.mono (Nat.le_refl _) hOk (fun o t hA => ?_)
    obtain ⟨b, rfl, hb0, hbv, hS2, hn2, hs2⟩ := hA
    obtain ⟨K2, I2, L2, R2, n2, s2⟩ := t
    have hT2 : TK K2 R2 n2 := hS2.1.1
    refine Cont.v ?_
    refine wp_istore6 (pc' := 2471) rfl rfl rfl ?_
    refine wp_aload2 (pc' := 2472) rfl rfl ?_
    refine wp_callV1 (pc' := 2475) rfl rfl rfl rfl rfl (TK.k1 hT2 rfl) rfl rfl ?_
    refine m_thrown (d := d + 39) hT2 ?_
    rw [show I2 318 0 = nI k from hb0]
    refine Cont.v ?_
    refine wp_iload5 (pc' := 2477) rfl rfl ?_
    refine wp_icmpeqT rfl rfl ?_
    refine wp_iload5 (pc' := 2484) rfl rfl ?_
    by_cases hk : k = 0
    · subst hk
      refine wp_ifneF (pc' := 2487) rfl rfl rfl ?_
      refine wp_aload3 (pc' := 2488) rfl rfl ?_
      refine wp_iconst (v := nI 0) (pc' := 2489) rfl rfl rfl ?_
      refine wp_lald 0 (pc' := 2490) rfl (TK.kk hT2 rfl) rfl (by decide) (by decide) rfl ?_
      refine wp_iload6 (pc' := 2492) rfl rfl ?_
      refine wp_i2l (pc' := 2493) rfl rfl ?_
      refine wp_lcmp (pc' := 2494) rfl rfl ?_
      refine wp_ifeqT rfl (lg_eq (hbv rfl)) ?_
      refine wp_goto rfl ?_
      exact kk K2 I2 L2 R2 n2 s2 _ _ rfl rfl hS2 hn2 hs2
    · refine wp_ifneT rfl (fun e => hk (eq_nI e (by omega) (by decide))) ?_
      refine wp_goto rfl ?_
      exact kk K2 I2 L2 R2 n2 s2 _ _ rfl rfl hS2 hn2 hs2
theorem k_47 {N d : Nat} {xs : Nat → Int32} {K : Nat → Nat × Nat} {I : Mem} {L : Nat → Nat → Int64} {R : Nat → Nat → Option Nat} {n s i : Nat} {v5 v6 : Value} {Q : Lo → Lm → Prop} (h : Sim N xs K I L R n) (hn : n + 6 ≤ lmCells) (hs : s + 876 ≤ lmSlots) (hi : i + 6 ≤ N) (hN : N ≤ 3072) (h5 : isL v5 = false) (h6 : isL v6 = false) (kk : NxT N xs (d + 40) Q i n s) : WP (d + 40) F_369 2502 [.ref lmScr, .ref 0, .ref 318, .ref 337, .int (nI i), v5, v6] [] (K, I, L, R, n, s) Q := by
  have hsc := h.1.2.2.2.1
  have hxs := h.1.2.2.2.2.1.1
  have hT := h.1.1
  refine wp_aload1 (pc' := 2503) rfl rfl ?_
  refine wp_aload0 (pc' := 2504) rfl rfl ?_
  refine wp_iload4 (pc' := 2506) rfl rfl ?_
  refine wp_iconst (v := nI 1) (pc' := 2507) rfl rfl rfl ?_
  refine wp_iaddN (pc' := 2508) rfl rfl rfl rfl ?_
  refine wp_iald (i + 1) (pc' := 2509) rfl hsc rfl (by omega) (by omega) rfl ?_
  rw [show I lmScr (i + 1) = xs (i + 1) from hxs (i + 1)]
  refine wp_aload0 (pc' := 2510) rfl rfl ?_
  refine wp_iload4 (pc' := 2512) rfl rfl ?_
  refine wp_iconst (v := nI 2) (pc' := 2513) rfl rfl rfl ?_
  refine wp_iaddN (pc' := 2514) rfl rfl rfl rfl ?_
  refine wp_iald (i + 2) (pc' := 2515) rfl hsc rfl (by omega) (by omega) rfl ?_
  rw [show I lmScr (i + 2) = xs (i + 2) from hxs (i + 2)]
  refine wp_aload3 (pc' := 2516) rfl rfl ?_
  refine wp_callS4 (pc' := 2519) rfl rfl rfl rfl rfl rfl ?_
  refine Ok.mono (Nat.le_refl _) (o_log h hn hs) (fun o t hA => ?_)
  obtain ⟨k, hk4, rfl, hOk, hm1, hm2, hm3⟩ := hA
  obtain ⟨K1, I1, L1, R1, n1, s1⟩ := t
  refine Cont.v ?_
  refine wp_istore5 (pc' := 2521) rfl rfl rfl ?_
  refine wp_aload2 (pc' := 2522) rfl rfl ?_
  refine wp_aload0 (pc' := 2523) rfl rfl ?_
  refine wp_iload4 (pc' := 2525) rfl rfl ?_
  refine wp_iconst (v := nI 1) (pc' := 2526) rfl rfl rfl ?_
  refine wp_iaddN (pc' := 2527) rfl rfl rfl rfl ?_
  refine wp_iald (i + 1) (pc' := 2528) rfl hm1 rfl (by omega) (by omega) rfl ?_
  rw [show I1 lmScr (i + 1) = xs (i + 1) from hm2 (i + 1)]
  refine wp_aload0 (pc' := 2529) rfl rfl ?_
  refine wp_iload4 (pc' := 2531) rfl rfl ?_
  refine wp_iconst (v := nI 2) (pc' := 2532) rfl rfl rfl ?_
  refine wp_iaddN (pc' := 2533) rfl rfl rfl rfl ?_
  refine wp_iald (i + 2) (pc' := 2534) rfl hm1 rfl (by omega) (by omega) rfl ?_
  rw [show I1 lmScr (i + 2) = xs (i + 2) from hm2 (i + 2)]
  refine wp_callV3 (pc' := 2537) rfl rfl rfl rfl rfl hm3 rfl rfl ?_
  refine Ok.mono (Nat.le_refl _) hOk (fun o t hA => ?_)
  obtain ⟨b, rfl, hb0, hbv, hS2, hn2, hs2⟩ := hA
  obtain ⟨K2, I2, L2, R2, n2, s2⟩ := t
  have hT2 : TK K2 R2 n2 := hS2.1.1
  refine Cont.v ?_
  refine wp_istore6 (pc' := 2539) rfl rfl rfl ?_
  refine wp_aload2 (pc' := 2540) rfl rfl ?_
  refine wp_callV1 (pc' := 2543) rfl rfl rfl rfl rfl (TK.k1 hT2 rfl) rfl rfl ?_
  refine m_thrown (d := d + 39) hT2 ?_
  rw [show I2 318 0 = nI k from hb0]
  refine Cont.v ?_
  refine wp_iload5 (pc' := 2545) rfl rfl ?_
  refine wp_icmpeqT rfl rfl ?_
  refine wp_iload5 (pc' := 2552) rfl rfl ?_
  by_cases hk : k = 0
  · subst hk
    refine wp_ifneF (pc' := 2555) rfl rfl rfl ?_
    refine wp_aload3 (pc' := 2556) rfl rfl ?_
    refine wp_iconst (v := nI 0) (pc' := 2557) rfl rfl rfl ?_
    refine wp_lald 0 (pc' := 2558) rfl (TK.kk hT2 rfl) rfl (by decide) (by decide) rfl ?_
    refine wp_iload6 (pc' := 2560) rfl rfl ?_
    refine wp_i2l (pc' := 2561) rfl rfl ?_
    refine wp_lcmp (pc' := 2562) rfl rfl ?_
    refine wp_ifeqT rfl (lg_eq (hbv rfl)) ?_
    refine wp_goto rfl ?_
    exact kk K2 I2 L2 R2 n2 s2 _ _ rfl rfl hS2 hn2 hs2
  · refine wp_ifneT rfl (fun e => hk (eq_nI e (by omega) (by decide))) ?_
    refine wp_goto rfl ?_
    exact kk K2 I2 L2 R2 n2 s2 _ _ rfl rfl hS2 hn2 hs2
theorem k_48 {N d : Nat} {xs : Nat → Int32} {K : Nat → Nat × Nat} {I : Mem} {L : Nat → Nat → Int64} {R : Nat → Nat → Option Nat} {n s i : Nat} {v5 v6 : Value} {Q : Lo → Lm → Prop} (h : Sim N xs K I L R n) (hn : n + 6 ≤ lmCells) (hs : s + 876 ≤ lmSlots) (hi : i + 6 ≤ N) (hN : N ≤ 3072) (h5 : isL v5 = false) (h6 : isL v6 = false) (kk : NxT N xs (d + 40) Q i n s) : WP (d + 40) F_369 2570 [.ref lmScr, .ref 0, .ref 318, .ref 337, .int (nI i), v5, v6] [] (K, I, L, R, n, s) Q := by
  have hsc := h.1.2.2.2.1
  have hxs := h.1.2.2.2.2.1.1
  have hT := h.1.1
  refine wp_aload1 (pc' := 2571) rfl rfl ?_
  refine wp_aload0 (pc' := 2572) rfl rfl ?_
  refine wp_iload4 (pc' := 2574) rfl rfl ?_
  refine wp_iconst (v := nI 1) (pc' := 2575) rfl rfl rfl ?_
  refine wp_iaddN (pc' := 2576) rfl rfl rfl rfl ?_
  refine wp_iald (i + 1) (pc' := 2577) rfl hsc rfl (by omega) (by omega) rfl ?_
  rw [show I lmScr (i + 1) = xs (i + 1) from hxs (i + 1)]
  refine wp_callV2 (pc' := 2580) rfl rfl rfl rfl rfl (TK.k1 hT rfl) rfl rfl ?_
  refine Ok.mono (Nat.le_refl _) (o_seed h) (fun o t hA => ?_)
  obtain ⟨v, rfl, hOk, hm1, hm2, hm3⟩ := hA
  obtain ⟨K1, I1, L1, R1, n1, s1⟩ := t
  refine Cont.v ?_
  refine wp_aload2 (pc' := 2581) rfl rfl ?_
  refine wp_aload0 (pc' := 2582) rfl rfl ?_
  refine wp_iload4 (pc' := 2584) rfl rfl ?_
  refine wp_iconst (v := nI 1) (pc' := 2585) rfl rfl rfl ?_
  refine wp_iaddN (pc' := 2586) rfl rfl rfl rfl ?_
  refine wp_iald (i + 1) (pc' := 2587) rfl hm1 rfl (by omega) (by omega) rfl ?_
  rw [show I1 lmScr (i + 1) = xs (i + 1) from hm2 (i + 1)]
  refine wp_callV2 (pc' := 2590) rfl rfl rfl rfl rfl hm3 rfl rfl ?_
  refine Ok.mono (Nat.le_refl _) hOk (fun o t hA => ?_)
  obtain ⟨rfl, hS2, hn2, hs2⟩ := hA
  obtain ⟨K2, I2, L2, R2, n2, s2⟩ := t
  refine Cont.v ?_
  refine wp_icmpeqT rfl rfl ?_
  exact kk K2 I2 L2 R2 n2 s2 _ _ h5 h6 hS2 hn2 hs2
theorem k_49 {N d : Nat} {xs : Nat → Int32} {K : Nat → Nat × Nat} {I : Mem} {L : Nat → Nat → Int64} {R : Nat → Nat → Option Nat} {n s i : Nat} {v5 v6 : Value} {Q : Lo → Lm → Prop} (h : Sim N xs K I L R n) (hn : n + 6 ≤ lmCells) (hs : s + 876 ≤ lmSlots) (hi : i + 6 ≤ N) (hN : N ≤ 3072) (h5 : isL v5 = false) (h6 : isL v6 = false) (kk : NxT N xs (d + 40) Q i n s) : WP (d + 40) F_369 2595 [.ref lmScr, .ref 0, .ref 318, .ref 337, .int (nI i), v5, v6] [] (K, I, L, R, n, s) Q := by
  have hsc := h.1.2.2.2.1
  have hxs := h.1.2.2.2.2.1.1
  have hT := h.1.1
  refine wp_aload1 (pc' := 2596) rfl rfl ?_
  refine wp_callV1 (pc' := 2599) rfl rfl rfl rfl rfl (TK.k1 hT rfl) rfl rfl ?_
  refine Ok.mono (Nat.le_refl _) (o_undo h) (fun o t hA => ?_)
  obtain ⟨v, rfl, hOk, hm1, hm2, hm3⟩ := hA
  obtain ⟨K1, I1, L1, R1, n1, s1⟩ := t
  refine Cont.v ?_
  refine wp_aload2 (pc' := 2600) rfl rfl ?_
  refine wp_callV1 (pc' := 2603) rfl rfl rfl rfl rfl hm3 rfl rfl ?_
  refine Ok.mono (Nat.le_refl _) hOk (fun o t hA => ?_)
  obtain ⟨rfl, hS2, hn2, hs2⟩ := hA
  obtain ⟨K2, I2, L2, R2, n2, s2⟩ := t
  refine Cont.v ?_
  refine wp_icmpeqT rfl rfl ?_
  exact kk K2 I2 L2 R2 n2 s2 _ _ h5 h6 hS2 hn2 hs2
theorem k_50 {N d : Nat} {xs : Nat → Int32} {K : Nat → Nat × Nat} {I : Mem} {L : Nat → Nat → Int64} {R : Nat → Nat → Option Nat} {n s i : Nat} {v5 v6 : Value} {Q : Lo → Lm → Prop} (h : Sim N xs K I L R n) (hn : n + 6 ≤ lmCells) (hs : s + 876 ≤ lmSlots) (hi : i + 6 ≤ N) (hN : N ≤ 3072) (h5 : isL v5 = false) (h6 : isL v6 = false) (kk : NxT N xs (d + 40) Q i n s) : WP (d + 40) F_369 2608 [.ref lmScr, .ref 0, .ref 318, .ref 337, .int (nI i), v5, v6] [] (K, I, L, R, n, s) Q := by
  have hsc := h.1.2.2.2.1
  have hxs := h.1.2.2.2.2.1.1
  have hT := h.1.1
  refine wp_aload1 (pc' := 2609) rfl rfl ?_
  refine wp_callV1 (pc' := 2612) rfl rfl rfl rfl rfl (TK.k1 hT rfl) rfl rfl ?_
  refine Ok.mono (Nat.le_refl _) (o_image h) (fun o t hA => ?_)
  obtain ⟨rfl, hOk, hm1, hm2, hm3⟩ := hA
  obtain ⟨K1, I1, L1, R1, n1, s1⟩ := t
  refine Cont.u ?_
  refine wp_aload2 (pc' := 2613) rfl rfl ?_
  refine wp_callV1 (pc' := 2616) rfl rfl rfl rfl rfl hm3 rfl rfl ?_
  refine Ok.mono (Nat.le_refl _) hOk (fun o t hA => ?_)
  obtain ⟨rfl, hS2, hn2, hs2⟩ := hA
  obtain ⟨K2, I2, L2, R2, n2, s2⟩ := t
  refine Cont.u ?_
  refine wp_goto rfl ?_
  exact kk K2 I2 L2 R2 n2 s2 _ _ h5 h6 hS2 hn2 hs2
theorem k_51 {N d : Nat} {xs : Nat → Int32} {K : Nat → Nat × Nat} {I : Mem} {L : Nat → Nat → Int64} {R : Nat → Nat → Option Nat} {n s i : Nat} {v5 v6 : Value} {Q : Lo → Lm → Prop} (h : Sim N xs K I L R n) (hn : n + 6 ≤ lmCells) (hs : s + 876 ≤ lmSlots) (hi : i + 6 ≤ N) (hN : N ≤ 3072) (h5 : isL v5 = false) (h6 : isL v6 = false) (kk : NxT N xs (d + 40) Q i n s) : WP (d + 40) F_369 2619 [.ref lmScr, .ref 0, .ref 318, .ref 337, .int (nI i), v5, v6] [] (K, I, L, R, n, s) Q := by
  have hsc := h.1.2.2.2.1
  have hxs := h.1.2.2.2.2.1.1
  have hT := h.1.1
  refine wp_aload1 (pc' := 2620) rfl rfl ?_
  refine wp_callV1 (pc' := 2623) rfl rfl rfl rfl rfl (TK.k1 hT rfl) rfl rfl ?_
  refine Ok.mono (Nat.le_refl _) (o_back h) (fun o t hA => ?_)
  obtain ⟨v, rfl, hOk, hm1, hm2, hm3⟩ := hA
  obtain ⟨K1, I1, L1, R1, n1, s1⟩ := t
  refine Cont.v ?_
  refine wp_aload2 (pc' := 2624) rfl rfl ?_
  refine wp_callV1 (pc' := 2627) rfl rfl rfl rfl rfl hm3 rfl rfl ?_
  refine Ok.mono (Nat.le_refl _) hOk (fun o t hA => ?_)
  obtain ⟨rfl, hS2, hn2, hs2⟩ := hA
  obtain ⟨K2, I2, L2, R2, n2, s2⟩ := t
  refine Cont.v ?_
  refine wp_icmpeqT rfl rfl ?_
  exact kk K2 I2 L2 R2 n2 s2 _ _ h5 h6 hS2 hn2 hs2
theorem k_52 {N d : Nat} {xs : Nat → Int32} {K : Nat → Nat × Nat} {I : Mem} {L : Nat → Nat → Int64} {R : Nat → Nat → Option Nat} {n s i : Nat} {v5 v6 : Value} {Q : Lo → Lm → Prop} (h : Sim N xs K I L R n) (hn : n + 6 ≤ lmCells) (hs : s + 876 ≤ lmSlots) (hi : i + 6 ≤ N) (hN : N ≤ 3072) (h5 : isL v5 = false) (h6 : isL v6 = false) (kk : NxT N xs (d + 40) Q i n s) : WP (d + 40) F_369 2632 [.ref lmScr, .ref 0, .ref 318, .ref 337, .int (nI i), v5, v6] [] (K, I, L, R, n, s) Q := by
  have hsc := h.1.2.2.2.1
  have hxs := h.1.2.2.2.2.1.1
  have hT := h.1.1
  refine wp_aload1 (pc' := 2633) rfl rfl ?_
  refine wp_aload0 (pc' := 2634) rfl rfl ?_
  refine wp_iload4 (pc' := 2636) rfl rfl ?_
  refine wp_iconst (v := nI 1) (pc' := 2637) rfl rfl rfl ?_
  refine wp_iaddN (pc' := 2638) rfl rfl rfl rfl ?_
  refine wp_iald (i + 1) (pc' := 2639) rfl hsc rfl (by omega) (by omega) rfl ?_
  rw [show I lmScr (i + 1) = xs (i + 1) from hxs (i + 1)]
  refine wp_callV2 (pc' := 2642) rfl rfl rfl rfl rfl (TK.k1 hT rfl) rfl rfl ?_
  refine Ok.mono (Nat.le_refl _) (o_count h) (fun o t hA => ?_)
  obtain ⟨v, rfl, hOk, hm1, hm2, hm3⟩ := hA
  obtain ⟨K1, I1, L1, R1, n1, s1⟩ := t
  refine Cont.v ?_
  refine wp_aload2 (pc' := 2643) rfl rfl ?_
  refine wp_aload0 (pc' := 2644) rfl rfl ?_
  refine wp_iload4 (pc' := 2646) rfl rfl ?_
  refine wp_iconst (v := nI 1) (pc' := 2647) rfl rfl rfl ?_
  refine wp_iaddN (pc' := 2648) rfl rfl rfl rfl ?_
  refine wp_iald (i + 1) (pc' := 2649) rfl hm1 rfl (by omega) (by omega) rfl ?_
  rw [show I1 lmScr (i + 1) = xs (i + 1) from hm2 (i + 1)]
  refine wp_callV2 (pc' := 2652) rfl rfl rfl rfl rfl hm3 rfl rfl ?_
  refine Ok.mono (Nat.le_refl _) hOk (fun o t hA => ?_)
  obtain ⟨rfl, hS2, hn2, hs2⟩ := hA
  obtain ⟨K2, I2, L2, R2, n2, s2⟩ := t
  refine Cont.v ?_
  refine wp_icmpeqT rfl rfl ?_
  exact kk K2 I2 L2 R2 n2 s2 _ _ h5 h6 hS2 hn2 hs2
