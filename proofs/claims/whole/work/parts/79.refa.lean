/-! THE REFERENCE: what is told, a hearth, counts -/
theorem InR_iffN {x : Int32} {H : Nat} (hH : H < 2 ^ 30) : (¬ x < nI 0 ∧ ¬ nI H - nI 1 < x) ↔ InR x H := by
  cases H with
  | zero =>
    constructor
    · rintro ⟨h0, h1⟩
      exact absurd (show nI 0 - nI 1 < x by
        have e : (nI 0 - nI 1).toInt = -1 := by decide
        have e0 : (nI 0).toInt = 0 := by decide
        rw [Int32.lt_iff_toInt_lt] at h0 ⊢
        rw [e0] at h0
        rw [e]
        omega) h1
    · rintro ⟨c, hc, -⟩; exact absurd hc (Nat.not_lt_zero c)
  | succ k => rw [nI_sub (by omega), Nat.add_sub_cancel]; exact InR_iff (by omega)

theorem m_ofLog {d : Nat} {K : Nat → Nat × Nat} {I : Nat → Nat → Int32} {L : Nat → Nat → Int64} {R : Nat → Nat → Option Nat} {n s : Nat} {Q : Lo → Lm → Prop} {k q : Nat} (hT : TK K R n) (hk : k < 60) (hq : q < 5) (kk : Q (.inl (some (.int (I 319 (183 + 5 * k + q))))) (K, I, L, R, n, s)) : Ok (d + 1) 365 [.ref 318, .int (nI k), .int (nI q)] (K, I, L, R, n, s) Q := by
  obtain ⟨-, -, hn⟩ := id hT
  refine Ok.enter (F := F_365) (ls := [.ref 318, .int (nI k), .int (nI q)]) rfl rfl ?_
  refine wp_aload0 (pc' := 1) rfl rfl ?_
  refine wp_getRF (pc' := 4) rfl rfl (by first | exact TK.k1 hT rfl | exact TK.kk hT rfl | exact TK.r hT rfl | assumption) (by first | exact TK.k1 hT rfl | exact TK.kk hT rfl | exact TK.r hT rfl | assumption) rfl ?_
  refine wp_sipush (v := nI 183) (pc' := 7) rfl rfl rfl ?_
  refine wp_iconst (v := nI 5) (pc' := 8) rfl rfl rfl ?_
  refine wp_iload1 (pc' := 9) rfl rfl ?_
  first | refine wp_imulN (pc' := 10) rfl (by with_reducible rfl) (by with_reducible rfl) rfl ?_ | refine wp_imul (pc' := 10) rfl rfl ?_
  first | refine wp_iaddN (pc' := 11) rfl (by with_reducible rfl) (by with_reducible rfl) rfl ?_ | refine wp_iadd (pc' := 11) rfl rfl ?_
  refine wp_iload2 (pc' := 12) rfl rfl ?_
  first | refine wp_iaddN (pc' := 13) rfl (by with_reducible rfl) (by with_reducible rfl) rfl ?_ | refine wp_iadd (pc' := 13) rfl rfl ?_
  refine wp_iald _ (pc' := 14) rfl (by first | exact TK.k1 hT rfl | exact TK.kk hT rfl | exact TK.r hT rfl | assumption) (by with_reducible rfl) (by omega) (by first | decide | assumption | omega) rfl ?_
  refine wp_iret rfl rfl rfl ?_
  exact kk
theorem m_log1 {d : Nat} {K : Nat → Nat × Nat} {I : Nat → Nat → Int32} {L : Nat → Nat → Int64} {R : Nat → Nat → Option Nat} {n s : Nat} {Q : Lo → Lm → Prop} {g k q : Nat} (hT : TK K R n) (hg : I 319 7 = nI g) (hg60 : g ≤ 60) (hk : k < g) (hq : q < 5) (kk : Q (.inl (some (.int (I 319 (183 + 5 * k + q))))) (K, up2 I 318 0 (nI 0), L, R, n, s)) : Ok (d + 2) 366 [.ref 318, .int (nI k), .int (nI q)] (K, I, L, R, n, s) Q := by
  obtain ⟨-, -, hn⟩ := id hT
  refine Ok.enter (F := F_366) (ls := [.ref 318, .int (nI k), .int (nI q)]) rfl rfl ?_
  refine wp_aload0 (pc' := 1) rfl rfl ?_
  refine wp_iconst (v := nI 0) (pc' := 2) rfl rfl rfl ?_
  refine wp_putI (pc' := 5) rfl rfl (by first | exact TK.k1 hT rfl | exact TK.kk hT rfl | exact TK.r hT rfl | assumption) (by omega) rfl ?_
  obtain ⟨M, hM⟩ : ∃ M, M = up2 I 318 0 (nI 0) := ⟨_, rfl⟩
  have hM9 : M 319 = I 319 := by rw [hM]; exact up2_row (by decide)
  have hM7 : M 318 7 = I 318 7 := by rw [hM, up2_same, if_neg (by decide)]
  rw [← hM]
  refine wp_aload0 (pc' := 6) rfl rfl ?_
  refine wp_iload2 (pc' := 7) rfl rfl ?_
  refine wp_iconst (v := nI 0) (pc' := 8) rfl rfl rfl ?_
  refine wp_iconst (v := nI 4) (pc' := 9) rfl rfl rfl ?_
  refine wp_callS3 (pc' := 12) rfl rfl rfl rfl rfl rfl ?_
  refine m_in1 (nI_pos (by omega)) (nI_nlt (by omega) (by omega)) ?_
  refine Cont.v ?_
  refine wp_ifneT rfl (by decide) ?_
  refine wp_iconst (v := nI 0) (pc' := 20) rfl rfl rfl ?_
  refine wp_iconst (v := nI 1) (pc' := 21) rfl rfl rfl ?_
  refine wp_callV3 (pc' := 24) rfl rfl rfl rfl rfl (by first | exact TK.k1 hT rfl | exact TK.kk hT rfl | exact TK.r hT rfl | assumption) rfl rfl ?_
  refine m_tfN hT ?_
  refine Cont.v ?_
  refine wp_ifeqT rfl rfl ?_
  refine wp_iload1 (pc' := 30) rfl rfl ?_
  refine wp_iconst (v := nI 0) (pc' := 31) rfl rfl rfl ?_
  refine wp_aload0 (pc' := 32) rfl rfl ?_
  refine wp_getRF (pc' := 35) rfl rfl (by first | exact TK.k1 hT rfl | exact TK.kk hT rfl | exact TK.r hT rfl | assumption) (by first | exact TK.k1 hT rfl | exact TK.kk hT rfl | exact TK.r hT rfl | assumption) rfl ?_
  refine wp_bipush (v := nI 7) (pc' := 37) rfl rfl rfl ?_
  refine wp_iald _ (pc' := 38) rfl (by first | exact TK.k1 hT rfl | exact TK.kk hT rfl | exact TK.r hT rfl | assumption) (by with_reducible rfl) (by omega) (by first | decide | assumption | omega) rfl ?_
  rw [hM9, hg]
  refine wp_iconst (v := nI 1) (pc' := 39) rfl rfl rfl ?_
  refine wp_isub (pc' := 40) rfl rfl ?_
  refine wp_callS3 (pc' := 43) rfl rfl rfl rfl rfl rfl ?_
  have hin := (InR_iffN (x := nI k) (H := g) (by omega)).mpr ⟨k, hk, rfl⟩
  refine m_in1 hin.1 hin.2 ?_
  refine Cont.v ?_
  refine wp_ifeqF (pc' := 46) rfl (by decide) rfl ?_
  refine wp_aload0 (pc' := 47) rfl rfl ?_
  refine wp_iload1 (pc' := 48) rfl rfl ?_
  refine wp_iload2 (pc' := 49) rfl rfl ?_
  refine wp_callV3 (pc' := 52) rfl rfl rfl rfl rfl (by first | exact TK.k1 hT rfl | exact TK.kk hT rfl | exact TK.r hT rfl | assumption) rfl rfl ?_
  refine m_ofLog hT (by omega) (by omega) ?_
  refine Cont.v ?_
  refine wp_goto rfl ?_
  refine wp_iret rfl rfl rfl ?_
  rw [hM9, hM]
  exact kk
theorem m_log0 {d : Nat} {K : Nat → Nat × Nat} {I : Nat → Nat → Int32} {L : Nat → Nat → Int64} {R : Nat → Nat → Option Nat} {n s : Nat} {Q : Lo → Lm → Prop} {g q : Nat} {x : Int32} (hT : TK K R n) (hg : I 319 7 = nI g) (hg60 : g ≤ 60) (hx : ¬ InR x g) (hq : q < 5) (kk : Q (.inl (some (.int (-1)))) (K, up2 I 318 0 (nI 0), L, R, n, s)) : Ok (d + 2) 366 [.ref 318, .int x, .int (nI q)] (K, I, L, R, n, s) Q := by
  obtain ⟨-, -, hn⟩ := id hT
  refine Ok.enter (F := F_366) (ls := [.ref 318, .int x, .int (nI q)]) rfl rfl ?_
  refine wp_aload0 (pc' := 1) rfl rfl ?_
  refine wp_iconst (v := nI 0) (pc' := 2) rfl rfl rfl ?_
  refine wp_putI (pc' := 5) rfl rfl (by first | exact TK.k1 hT rfl | exact TK.kk hT rfl | exact TK.r hT rfl | assumption) (by omega) rfl ?_
  obtain ⟨M, hM⟩ : ∃ M, M = up2 I 318 0 (nI 0) := ⟨_, rfl⟩
  have hM9 : M 319 = I 319 := by rw [hM]; exact up2_row (by decide)
  have hM7 : M 318 7 = I 318 7 := by rw [hM, up2_same, if_neg (by decide)]
  rw [← hM]
  refine wp_aload0 (pc' := 6) rfl rfl ?_
  refine wp_iload2 (pc' := 7) rfl rfl ?_
  refine wp_iconst (v := nI 0) (pc' := 8) rfl rfl rfl ?_
  refine wp_iconst (v := nI 4) (pc' := 9) rfl rfl rfl ?_
  refine wp_callS3 (pc' := 12) rfl rfl rfl rfl rfl rfl ?_
  refine m_in1 (nI_pos (by omega)) (nI_nlt (by omega) (by omega)) ?_
  refine Cont.v ?_
  refine wp_ifneT rfl (by decide) ?_
  refine wp_iconst (v := nI 0) (pc' := 20) rfl rfl rfl ?_
  refine wp_iconst (v := nI 1) (pc' := 21) rfl rfl rfl ?_
  refine wp_callV3 (pc' := 24) rfl rfl rfl rfl rfl (by first | exact TK.k1 hT rfl | exact TK.kk hT rfl | exact TK.r hT rfl | assumption) rfl rfl ?_
  refine m_tfN hT ?_
  refine Cont.v ?_
  refine wp_ifeqT rfl rfl ?_
  refine wp_iload1 (pc' := 30) rfl rfl ?_
  refine wp_iconst (v := nI 0) (pc' := 31) rfl rfl rfl ?_
  refine wp_aload0 (pc' := 32) rfl rfl ?_
  refine wp_getRF (pc' := 35) rfl rfl (by first | exact TK.k1 hT rfl | exact TK.kk hT rfl | exact TK.r hT rfl | assumption) (by first | exact TK.k1 hT rfl | exact TK.kk hT rfl | exact TK.r hT rfl | assumption) rfl ?_
  refine wp_bipush (v := nI 7) (pc' := 37) rfl rfl rfl ?_
  refine wp_iald _ (pc' := 38) rfl (by first | exact TK.k1 hT rfl | exact TK.kk hT rfl | exact TK.r hT rfl | assumption) (by with_reducible rfl) (by omega) (by first | decide | assumption | omega) rfl ?_
  rw [hM9, hg]
  refine wp_iconst (v := nI 1) (pc' := 39) rfl rfl rfl ?_
  refine wp_isub (pc' := 40) rfl rfl ?_
  refine wp_callS3 (pc' := 43) rfl rfl rfl rfl rfl rfl ?_
  refine m_in0 (fun e => hx ((InR_iffN (by omega)).mp e)) ?_
  refine Cont.v ?_
  refine wp_ifeqT rfl rfl ?_
  refine wp_iconst (v := (-1)) (pc' := 56) rfl rfl rfl ?_
  refine wp_iret rfl rfl rfl ?_
  rw [hM]
  exact kk
theorem m_logE {d : Nat} {K : Nat → Nat × Nat} {I : Nat → Nat → Int32} {L : Nat → Nat → Int64} {R : Nat → Nat → Option Nat} {n s : Nat} {Q : Lo → Lm → Prop} {x y : Int32} (hT : TK K R n) (hx : ¬ InR y 5) (kk : Q (.inl (some (.int (nI 0)))) (K, up2 I 318 0 (nI 1), L, R, n, s)) : Ok (d + 2) 366 [.ref 318, .int x, .int y] (K, I, L, R, n, s) Q := by
  obtain ⟨-, -, hn⟩ := id hT
  refine Ok.enter (F := F_366) (ls := [.ref 318, .int x, .int y]) rfl rfl ?_
  refine wp_aload0 (pc' := 1) rfl rfl ?_
  refine wp_iconst (v := nI 0) (pc' := 2) rfl rfl rfl ?_
  refine wp_putI (pc' := 5) rfl rfl (by first | exact TK.k1 hT rfl | exact TK.kk hT rfl | exact TK.r hT rfl | assumption) (by omega) rfl ?_
  refine wp_aload0 (pc' := 6) rfl rfl ?_
  refine wp_iload2 (pc' := 7) rfl rfl ?_
  refine wp_iconst (v := nI 0) (pc' := 8) rfl rfl rfl ?_
  refine wp_iconst (v := nI 4) (pc' := 9) rfl rfl rfl ?_
  refine wp_callS3 (pc' := 12) rfl rfl rfl rfl rfl rfl ?_
  refine m_in0 (fun q => hx ((InR_iff (k := 4) (by decide)).mp q)) ?_
  refine Cont.v ?_
  refine wp_ifneF (pc' := 15) rfl rfl rfl ?_
  refine wp_iconst (v := nI 1) (pc' := 16) rfl rfl rfl ?_
  refine wp_goto rfl ?_
  refine wp_iconst (v := nI 1) (pc' := 21) rfl rfl rfl ?_
  refine wp_callV3 (pc' := 24) rfl rfl rfl rfl rfl (by first | exact TK.k1 hT rfl | exact TK.kk hT rfl | exact TK.r hT rfl | assumption) rfl rfl ?_
  refine m_tfY hT ?_
  refine Cont.v ?_
  refine wp_ifeqF (pc' := 27) rfl (by decide) rfl ?_
  refine wp_iconst (v := nI 0) (pc' := 28) rfl rfl rfl ?_
  refine wp_iret rfl rfl rfl ?_
  rw [up318]
  exact kk
theorem m_hearth0 {d : Nat} {K : Nat → Nat × Nat} {I : Nat → Nat → Int32} {L : Nat → Nat → Int64} {R : Nat → Nat → Option Nat} {n s : Nat} {Q : Lo → Lm → Prop} {h : Nat} (hT : TK K R n) {H : Nat} (hw : I 319 0 = nI H) (hH6 : H ≤ 6) (hh : h < H) (kk : Q (.inl (some (.int (I 319 (159 + 4 * h + 0))))) (K, up2 I 318 0 (nI 0), L, R, n, s)) : Ok (d + 5) 286 [.ref 318, .int (nI h), .int (nI 0)] (K, I, L, R, n, s) Q := by
  obtain ⟨-, -, hn⟩ := id hT
  refine Ok.enter (F := F_286) (ls := [.ref 318, .int (nI h), .int (nI 0)]) rfl rfl ?_
  refine wp_aload0 (pc' := 1) rfl rfl ?_
  refine wp_iconst (v := nI 0) (pc' := 2) rfl rfl rfl ?_
  refine wp_putI (pc' := 5) rfl rfl (by first | exact TK.k1 hT rfl | exact TK.kk hT rfl | exact TK.r hT rfl | assumption) (by omega) rfl ?_
  obtain ⟨M, hM⟩ : ∃ M, M = up2 I 318 0 (nI 0) := ⟨_, rfl⟩
  have hM9 : M 319 = I 319 := by rw [hM]; exact up2_row (by decide)
  have hM7 : M 318 7 = I 318 7 := by rw [hM, up2_same, if_neg (by decide)]
  rw [← hM]
  refine wp_aload0 (pc' := 6) rfl rfl ?_
  refine wp_aload0 (pc' := 7) rfl rfl ?_
  refine wp_iload1 (pc' := 8) rfl rfl ?_
  refine wp_callV2 (pc' := 11) rfl rfl rfl rfl rfl (by first | exact TK.k1 hT rfl | exact TK.kk hT rfl | exact TK.r hT rfl | assumption) rfl rfl ?_
  refine m_noH1 hT (by rw [hM9]; exact hw) hH6 hh ?_
  refine Cont.v ?_
  refine wp_iconst (v := nI 1) (pc' := 12) rfl rfl rfl ?_
  refine wp_callV3 (pc' := 15) rfl rfl rfl rfl rfl (by first | exact TK.k1 hT rfl | exact TK.kk hT rfl | exact TK.r hT rfl | assumption) rfl rfl ?_
  refine m_tfN hT ?_
  refine Cont.v ?_
  refine wp_ifneF (pc' := 18) rfl rfl rfl ?_
  refine wp_aload0 (pc' := 19) rfl rfl ?_
  refine wp_iload2 (pc' := 20) rfl rfl ?_
  refine wp_iconst (v := nI 0) (pc' := 21) rfl rfl rfl ?_
  refine wp_bipush (v := nI 6) (pc' := 23) rfl rfl rfl ?_
  refine wp_callS3 (pc' := 26) rfl rfl rfl rfl rfl rfl ?_
  refine m_in1 (by decide) (by decide) ?_
  refine Cont.v ?_
  refine wp_ifneT rfl (by decide) ?_
  refine wp_iconst (v := nI 0) (pc' := 34) rfl rfl rfl ?_
  refine wp_iconst (v := nI 2) (pc' := 35) rfl rfl rfl ?_
  refine wp_callV3 (pc' := 38) rfl rfl rfl rfl rfl (by first | exact TK.k1 hT rfl | exact TK.kk hT rfl | exact TK.r hT rfl | assumption) rfl rfl ?_
  refine m_tfN hT ?_
  refine Cont.v ?_
  refine wp_ifeqT rfl rfl ?_
  refine wp_iload2 (pc' := 44) rfl rfl ?_
  refine wp_sw (tg := 110) rfl rfl ?_
  refine wp_aload0 (pc' := 111) rfl rfl ?_
  refine wp_iload1 (pc' := 112) rfl rfl ?_
  refine wp_iload2 (pc' := 113) rfl rfl ?_
  refine wp_callV3 (pc' := 116) rfl rfl rfl rfl rfl (by first | exact TK.k1 hT rfl | exact TK.kk hT rfl | exact TK.r hT rfl | assumption) rfl rfl ?_
  refine m_ofH hT (by omega) (by decide) ?_
  rw [hM9]
  refine Cont.v ?_
  refine wp_iret rfl rfl rfl ?_
  rw [hM]
  exact kk
theorem m_hearth1 {d : Nat} {K : Nat → Nat × Nat} {I : Nat → Nat → Int32} {L : Nat → Nat → Int64} {R : Nat → Nat → Option Nat} {n s : Nat} {Q : Lo → Lm → Prop} {h : Nat} (hT : TK K R n) {H : Nat} (hw : I 319 0 = nI H) (hH6 : H ≤ 6) (hh : h < H) (kk : Q (.inl (some (.int (I 319 (159 + 4 * h + 1))))) (K, up2 I 318 0 (nI 0), L, R, n, s)) : Ok (d + 5) 286 [.ref 318, .int (nI h), .int (nI 1)] (K, I, L, R, n, s) Q := by
  obtain ⟨-, -, hn⟩ := id hT
  refine Ok.enter (F := F_286) (ls := [.ref 318, .int (nI h), .int (nI 1)]) rfl rfl ?_
  refine wp_aload0 (pc' := 1) rfl rfl ?_
  refine wp_iconst (v := nI 0) (pc' := 2) rfl rfl rfl ?_
  refine wp_putI (pc' := 5) rfl rfl (by first | exact TK.k1 hT rfl | exact TK.kk hT rfl | exact TK.r hT rfl | assumption) (by omega) rfl ?_
  obtain ⟨M, hM⟩ : ∃ M, M = up2 I 318 0 (nI 0) := ⟨_, rfl⟩
  have hM9 : M 319 = I 319 := by rw [hM]; exact up2_row (by decide)
  have hM7 : M 318 7 = I 318 7 := by rw [hM, up2_same, if_neg (by decide)]
  rw [← hM]
  refine wp_aload0 (pc' := 6) rfl rfl ?_
  refine wp_aload0 (pc' := 7) rfl rfl ?_
  refine wp_iload1 (pc' := 8) rfl rfl ?_
  refine wp_callV2 (pc' := 11) rfl rfl rfl rfl rfl (by first | exact TK.k1 hT rfl | exact TK.kk hT rfl | exact TK.r hT rfl | assumption) rfl rfl ?_
  refine m_noH1 hT (by rw [hM9]; exact hw) hH6 hh ?_
  refine Cont.v ?_
  refine wp_iconst (v := nI 1) (pc' := 12) rfl rfl rfl ?_
  refine wp_callV3 (pc' := 15) rfl rfl rfl rfl rfl (by first | exact TK.k1 hT rfl | exact TK.kk hT rfl | exact TK.r hT rfl | assumption) rfl rfl ?_
  refine m_tfN hT ?_
  refine Cont.v ?_
  refine wp_ifneF (pc' := 18) rfl rfl rfl ?_
  refine wp_aload0 (pc' := 19) rfl rfl ?_
  refine wp_iload2 (pc' := 20) rfl rfl ?_
  refine wp_iconst (v := nI 0) (pc' := 21) rfl rfl rfl ?_
  refine wp_bipush (v := nI 6) (pc' := 23) rfl rfl rfl ?_
  refine wp_callS3 (pc' := 26) rfl rfl rfl rfl rfl rfl ?_
  refine m_in1 (by decide) (by decide) ?_
  refine Cont.v ?_
  refine wp_ifneT rfl (by decide) ?_
  refine wp_iconst (v := nI 0) (pc' := 34) rfl rfl rfl ?_
  refine wp_iconst (v := nI 2) (pc' := 35) rfl rfl rfl ?_
  refine wp_callV3 (pc' := 38) rfl rfl rfl rfl rfl (by first | exact TK.k1 hT rfl | exact TK.kk hT rfl | exact TK.r hT rfl | assumption) rfl rfl ?_
  refine m_tfN hT ?_
  refine Cont.v ?_
  refine wp_ifeqT rfl rfl ?_
  refine wp_iload2 (pc' := 44) rfl rfl ?_
  refine wp_sw (tg := 110) rfl rfl ?_
  refine wp_aload0 (pc' := 111) rfl rfl ?_
  refine wp_iload1 (pc' := 112) rfl rfl ?_
  refine wp_iload2 (pc' := 113) rfl rfl ?_
  refine wp_callV3 (pc' := 116) rfl rfl rfl rfl rfl (by first | exact TK.k1 hT rfl | exact TK.kk hT rfl | exact TK.r hT rfl | assumption) rfl rfl ?_
  refine m_ofH hT (by omega) (by decide) ?_
  rw [hM9]
  refine Cont.v ?_
  refine wp_iret rfl rfl rfl ?_
  rw [hM]
  exact kk
theorem m_hearth2 {d : Nat} {K : Nat → Nat × Nat} {I : Nat → Nat → Int32} {L : Nat → Nat → Int64} {R : Nat → Nat → Option Nat} {n s : Nat} {Q : Lo → Lm → Prop} {h : Nat} (hT : TK K R n) {H : Nat} (hw : I 319 0 = nI H) (hH6 : H ≤ 6) (hh : h < H) (kk : Q (.inl (some (.int (I 319 (159 + 4 * h + 2))))) (K, up2 I 318 0 (nI 0), L, R, n, s)) : Ok (d + 5) 286 [.ref 318, .int (nI h), .int (nI 2)] (K, I, L, R, n, s) Q := by
  obtain ⟨-, -, hn⟩ := id hT
  refine Ok.enter (F := F_286) (ls := [.ref 318, .int (nI h), .int (nI 2)]) rfl rfl ?_
  refine wp_aload0 (pc' := 1) rfl rfl ?_
  refine wp_iconst (v := nI 0) (pc' := 2) rfl rfl rfl ?_
  refine wp_putI (pc' := 5) rfl rfl (by first | exact TK.k1 hT rfl | exact TK.kk hT rfl | exact TK.r hT rfl | assumption) (by omega) rfl ?_
  obtain ⟨M, hM⟩ : ∃ M, M = up2 I 318 0 (nI 0) := ⟨_, rfl⟩
  have hM9 : M 319 = I 319 := by rw [hM]; exact up2_row (by decide)
  have hM7 : M 318 7 = I 318 7 := by rw [hM, up2_same, if_neg (by decide)]
  rw [← hM]
  refine wp_aload0 (pc' := 6) rfl rfl ?_
  refine wp_aload0 (pc' := 7) rfl rfl ?_
  refine wp_iload1 (pc' := 8) rfl rfl ?_
  refine wp_callV2 (pc' := 11) rfl rfl rfl rfl rfl (by first | exact TK.k1 hT rfl | exact TK.kk hT rfl | exact TK.r hT rfl | assumption) rfl rfl ?_
  refine m_noH1 hT (by rw [hM9]; exact hw) hH6 hh ?_
  refine Cont.v ?_
  refine wp_iconst (v := nI 1) (pc' := 12) rfl rfl rfl ?_
  refine wp_callV3 (pc' := 15) rfl rfl rfl rfl rfl (by first | exact TK.k1 hT rfl | exact TK.kk hT rfl | exact TK.r hT rfl | assumption) rfl rfl ?_
  refine m_tfN hT ?_
  refine Cont.v ?_
  refine wp_ifneF (pc' := 18) rfl rfl rfl ?_
  refine wp_aload0 (pc' := 19) rfl rfl ?_
  refine wp_iload2 (pc' := 20) rfl rfl ?_
  refine wp_iconst (v := nI 0) (pc' := 21) rfl rfl rfl ?_
  refine wp_bipush (v := nI 6) (pc' := 23) rfl rfl rfl ?_
  refine wp_callS3 (pc' := 26) rfl rfl rfl rfl rfl rfl ?_
  refine m_in1 (by decide) (by decide) ?_
  refine Cont.v ?_
  refine wp_ifneT rfl (by decide) ?_
  refine wp_iconst (v := nI 0) (pc' := 34) rfl rfl rfl ?_
  refine wp_iconst (v := nI 2) (pc' := 35) rfl rfl rfl ?_
  refine wp_callV3 (pc' := 38) rfl rfl rfl rfl rfl (by first | exact TK.k1 hT rfl | exact TK.kk hT rfl | exact TK.r hT rfl | assumption) rfl rfl ?_
  refine m_tfN hT ?_
  refine Cont.v ?_
  refine wp_ifeqT rfl rfl ?_
  refine wp_iload2 (pc' := 44) rfl rfl ?_
  refine wp_sw (tg := 110) rfl rfl ?_
  refine wp_aload0 (pc' := 111) rfl rfl ?_
  refine wp_iload1 (pc' := 112) rfl rfl ?_
  refine wp_iload2 (pc' := 113) rfl rfl ?_
  refine wp_callV3 (pc' := 116) rfl rfl rfl rfl rfl (by first | exact TK.k1 hT rfl | exact TK.kk hT rfl | exact TK.r hT rfl | assumption) rfl rfl ?_
  refine m_ofH hT (by omega) (by decide) ?_
  rw [hM9]
  refine Cont.v ?_
  refine wp_iret rfl rfl rfl ?_
  rw [hM]
  exact kk
theorem m_hearth3 {d : Nat} {K : Nat → Nat × Nat} {I : Nat → Nat → Int32} {L : Nat → Nat → Int64} {R : Nat → Nat → Option Nat} {n s : Nat} {Q : Lo → Lm → Prop} {h : Nat} (hT : TK K R n) {H : Nat} (hw : I 319 0 = nI H) (hH6 : H ≤ 6) (hh : h < H) (kk : Q (.inl (some (.int (I 319 (159 + 4 * h + 3))))) (K, up2 I 318 0 (nI 0), L, R, n, s)) : Ok (d + 5) 286 [.ref 318, .int (nI h), .int (nI 3)] (K, I, L, R, n, s) Q := by
  obtain ⟨-, -, hn⟩ := id hT
  refine Ok.enter (F := F_286) (ls := [.ref 318, .int (nI h), .int (nI 3)]) rfl rfl ?_
  refine wp_aload0 (pc' := 1) rfl rfl ?_
  refine wp_iconst (v := nI 0) (pc' := 2) rfl rfl rfl ?_
  refine wp_putI (pc' := 5) rfl rfl (by first | exact TK.k1 hT rfl | exact TK.kk hT rfl | exact TK.r hT rfl | assumption) (by omega) rfl ?_
  obtain ⟨M, hM⟩ : ∃ M, M = up2 I 318 0 (nI 0) := ⟨_, rfl⟩
  have hM9 : M 319 = I 319 := by rw [hM]; exact up2_row (by decide)
  have hM7 : M 318 7 = I 318 7 := by rw [hM, up2_same, if_neg (by decide)]
  rw [← hM]
  refine wp_aload0 (pc' := 6) rfl rfl ?_
  refine wp_aload0 (pc' := 7) rfl rfl ?_
  refine wp_iload1 (pc' := 8) rfl rfl ?_
  refine wp_callV2 (pc' := 11) rfl rfl rfl rfl rfl (by first | exact TK.k1 hT rfl | exact TK.kk hT rfl | exact TK.r hT rfl | assumption) rfl rfl ?_
  refine m_noH1 hT (by rw [hM9]; exact hw) hH6 hh ?_
  refine Cont.v ?_
  refine wp_iconst (v := nI 1) (pc' := 12) rfl rfl rfl ?_
  refine wp_callV3 (pc' := 15) rfl rfl rfl rfl rfl (by first | exact TK.k1 hT rfl | exact TK.kk hT rfl | exact TK.r hT rfl | assumption) rfl rfl ?_
  refine m_tfN hT ?_
  refine Cont.v ?_
  refine wp_ifneF (pc' := 18) rfl rfl rfl ?_
  refine wp_aload0 (pc' := 19) rfl rfl ?_
  refine wp_iload2 (pc' := 20) rfl rfl ?_
  refine wp_iconst (v := nI 0) (pc' := 21) rfl rfl rfl ?_
  refine wp_bipush (v := nI 6) (pc' := 23) rfl rfl rfl ?_
  refine wp_callS3 (pc' := 26) rfl rfl rfl rfl rfl rfl ?_
  refine m_in1 (by decide) (by decide) ?_
  refine Cont.v ?_
  refine wp_ifneT rfl (by decide) ?_
  refine wp_iconst (v := nI 0) (pc' := 34) rfl rfl rfl ?_
  refine wp_iconst (v := nI 2) (pc' := 35) rfl rfl rfl ?_
  refine wp_callV3 (pc' := 38) rfl rfl rfl rfl rfl (by first | exact TK.k1 hT rfl | exact TK.kk hT rfl | exact TK.r hT rfl | assumption) rfl rfl ?_
  refine m_tfN hT ?_
  refine Cont.v ?_
  refine wp_ifeqT rfl rfl ?_
  refine wp_iload2 (pc' := 44) rfl rfl ?_
  refine wp_sw (tg := 110) rfl rfl ?_
  refine wp_aload0 (pc' := 111) rfl rfl ?_
  refine wp_iload1 (pc' := 112) rfl rfl ?_
  refine wp_iload2 (pc' := 113) rfl rfl ?_
  refine wp_callV3 (pc' := 116) rfl rfl rfl rfl rfl (by first | exact TK.k1 hT rfl | exact TK.kk hT rfl | exact TK.r hT rfl | assumption) rfl rfl ?_
  refine m_ofH hT (by omega) (by decide) ?_
  rw [hM9]
  refine Cont.v ?_
  refine wp_iret rfl rfl rfl ?_
  rw [hM]
  exact kk
