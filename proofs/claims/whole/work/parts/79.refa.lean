/-! THE REFERENCE: what is told, a hearth, counts -/
theorem InR_iffN {x : Int32} {H : Nat} (hH : H < 2 ^ 30) : (¬ x < nI 0 ∧ ¬ nI H - nI 1 < x) ↔ InR x H := by
  cases H with
  | zero =>
    constructor
    · rintro ⟨h0, h1⟩
      exact absurd (show nI 0 - nI 1 < x by
        have e : (nI 0 - nI 1).toInt = -1 := by decide
        have e0 : (nI 0).toInt = 0 := by decide
        rw [Int32.lt_iff_toInt_lt] at h0 ⊢
        rw [e0] at h0
        rw [e]
        omega) h1
    · rintro ⟨c, hc, -⟩; exact absurd hc (Nat.not_lt_zero c)
  | succ k => rw [nI_sub (by omega), Nat.add_sub_cancel]; exact InR_iff (by omega)

theorem m_ofLog {d : Nat} {K : Nat → Nat × Nat} {I : Nat → Nat → Int32} {L : Nat → Nat → Int64} {R : Nat → Nat → Option Nat} {n s : Nat} {Q : Lo → Lm → Prop} {k q : Nat} (hT : TK K R n) (hk : k < 60) (hq : q < 5) (kk : Q (.inl (some (.int (I 319 (183 + 5 * k + q))))) (K, I, L, R, n, s)) : Ok (d + 1) 365 [.ref 318, .int (nI k), .int (nI q)] (K, I, L, R, n, s) Q := by
  obtain ⟨-, -, hn⟩ := id hT
  refine Ok.enter (F := F_365) (ls := [.ref 318, .int (nI k), .int (nI q)]) rfl rfl ?_
  refine wp_aload0 (pc' := 1) rfl rfl ?_
  refine wp_getRF (pc' := 4) rfl rfl (by first | exact TK.k1 hT rfl | exact TK.kk hT rfl | exact TK.r hT rfl | assumption) (by first | exact TK.k1 hT rfl | exact TK.kk hT rfl | exact TK.r hT rfl | assumption) rfl ?_
  refine wp_sipush (v := nI 183) (pc' := 7) rfl rfl rfl ?_
  refine wp_iconst (v := nI 5) (pc' := 8) rfl rfl rfl ?_
  refine wp_iload1 (pc' := 9) rfl rfl ?_
  first | refine wp_imulN (pc' := 10) rfl (by with_reducible rfl) (by with_reducible rfl) rfl ?_ | refine wp_imul (pc' := 10) rfl rfl ?_
  first | refine wp_iaddN (pc' := 11) rfl (by with_reducible rfl) (by with_reducible rfl) rfl ?_ | refine wp_iadd (pc' := 11) rfl rfl ?_
  refine wp_iload2 (pc' := 12) rfl rfl ?_
  first | refine wp_iaddN (pc' := 13) rfl (by with_reducible rfl) (by with_reducible rfl) rfl ?_ | refine wp_iadd (pc' := 13) rfl rfl ?_
  refine wp_iald _ (pc' := 14) rfl (by first | exact TK.k1 hT rfl | exact TK.kk hT rfl | exact TK.r hT rfl | assumption) (by with_reducible rfl) (by omega) (by first | decide | assumption | omega) rfl ?_
  refine wp_iret rfl rfl rfl ?_
  exact kk
theorem m_log1 {d : Nat} {K : Nat → Nat × Nat} {I : Nat → Nat → Int32} {L : Nat → Nat → Int64} {R : Nat → Nat → Option Nat} {n s : Nat} {Q : Lo → Lm → Prop} {g k q : Nat} (hT : TK K R n) (hg : I 319 7 = nI g) (hg60 : g ≤ 60) (hk : k < g) (hq : q < 5) (kk : Q (.inl (some (.int (I 319 (183 + 5 * k + q))))) (K, up2 I 318 0 (nI 0), L, R, n, s)) : Ok (d + 2) 366 [.ref 318, .int (nI k), .int (nI q)] (K, I, L, R, n, s) Q := by
  obtain ⟨-, -, hn⟩ := id hT
  refine Ok.enter (F := F_366) (ls := [.ref 318, .int (nI k), .int (nI q)]) rfl rfl ?_
  refine wp_aload0 (pc' := 1) rfl rfl ?_
  refine wp_iconst (v := nI 0) (pc' := 2) rfl rfl rfl ?_
  refine wp_putI (pc' := 5) rfl rfl (by first | exact TK.k1 hT rfl | exact TK.kk hT rfl | exact TK.r hT rfl | assumption) (by omega) rfl ?_
  obtain ⟨M, hM⟩ : ∃ M, M = up2 I 318 0 (nI 0) := ⟨_, rfl⟩
  have hM9 : M 319 = I 319 := by rw [hM]; exact up2_row (by decide)
  have hM7 : M 318 7 = I 318 7 := by rw [hM, up2_same, if_neg (by decide)]
  rw [← hM]
  refine wp_aload0 (pc' := 6) rfl rfl ?_
  refine wp_iload2 (pc' := 7) rfl rfl ?_
  refine wp_iconst (v := nI 0) (pc' := 8) rfl rfl rfl ?_
  refine wp_iconst (v := nI 4) (pc' := 9) rfl rfl rfl ?_
  refine wp_callS3 (pc' := 12) rfl rfl rfl rfl rfl rfl ?_
  refine m_in1 (nI_pos (by omega)) (nI_nlt (by omega) (by omega)) ?_
  refine Cont.v ?_
  refine wp_ifneT rfl (by decide) ?_
  refine wp_iconst (v := nI 0) (pc' := 20) rfl rfl rfl ?_
  refine wp_iconst (v := nI 1) (pc' := 21) rfl rfl rfl ?_
  refine wp_callV3 (pc' := 24) rfl rfl rfl rfl rfl (by first | exact TK.k1 hT rfl | exact TK.kk hT rfl | exact TK.r hT rfl | assumption) rfl rfl ?_
  refine m_tfN hT ?_
  refine Cont.v ?_
  refine wp_ifeqT rfl rfl ?_
  refine wp_iload1 (pc' := 30) rfl rfl ?_
  refine wp_iconst (v := nI 0) (pc' := 31) rfl rfl rfl ?_
  refine wp_aload0 (pc' := 32) rfl rfl ?_
  refine wp_getRF (pc' := 35) rfl rfl (by first | exact TK.k1 hT rfl | exact TK.kk hT rfl | exact TK.r hT rfl | assumption) (by first | exact TK.k1 hT rfl | exact TK.kk hT rfl | exact TK.r hT rfl | assumption) rfl ?_
  refine wp_bipush (v := nI 7) (pc' := 37) rfl rfl rfl ?_
  refine wp_iald _ (pc' := 38) rfl (by first | exact TK.k1 hT rfl | exact TK.kk hT rfl | exact TK.r hT rfl | assumption) (by with_reducible rfl) (by omega) (by first | decide | assumption | omega) rfl ?_
  rw [hM9, hg]
  refine wp_iconst (v := nI 1) (pc' := 39) rfl rfl rfl ?_
  refine wp_isub (pc' := 40) rfl rfl ?_
  refine wp_callS3 (pc' := 43) rfl rfl rfl rfl rfl rfl ?_
  have hin := (InR_iffN (x := nI k) (H := g) (by omega)).mpr ⟨k, hk, rfl⟩
  refine m_in1 hin.1 hin.2 ?_
  refine Cont.v ?_
  refine wp_ifeqF (pc' := 46) rfl (by decide) rfl ?_
  refine wp_aload0 (pc' := 47) rfl rfl ?_
  refine wp_iload1 (pc' := 48) rfl rfl ?_
  refine wp_iload2 (pc' := 49) rfl rfl ?_
  refine wp_callV3 (pc' := 52) rfl rfl rfl rfl rfl (by first | exact TK.k1 hT rfl | exact TK.kk hT rfl | exact TK.r hT rfl | assumption) rfl rfl ?_
  refine m_ofLog hT (by omega) (by omega) ?_
  refine Cont.v ?_
  refine wp_goto rfl ?_
  refine wp_iret rfl rfl rfl ?_
  rw [hM9, hM]
  exact kk
theorem m_log0 {d : Nat} {K : Nat → Nat × Nat} {I : Nat → Nat → Int32} {L : Nat → Nat → Int64} {R : Nat → Nat → Option Nat} {n s : Nat} {Q : Lo → Lm → Prop} {g q : Nat} {x : Int32} (hT : TK K R n) (hg : I 319 7 = nI g) (hg60 : g ≤ 60) (hx : ¬ InR x g) (hq : q < 5) (kk : Q (.inl (some (.int (-1)))) (K, up2 I 318 0 (nI 0), L, R, n, s)) : Ok (d + 2) 366 [.ref 318, .int x, .int (nI q)] (K, I, L, R, n, s) Q := by
  obtain ⟨-, -, hn⟩ := id hT
  refine Ok.enter (F := F_366) (ls := [.ref 318, .int x, .int (nI q)]) rfl rfl ?_
  refine wp_aload0 (pc' := 1) rfl rfl ?_
  refine wp_iconst (v := nI 0) (pc' := 2) rfl rfl rfl ?_
  refine wp_putI (pc' := 5) rfl rfl (by first | exact TK.k1 hT rfl | exact TK.kk hT rfl | exact TK.r hT rfl | assumption) (by omega) rfl ?_
  obtain ⟨M, hM⟩ : ∃ M, M = up2 I 318 0 (nI 0) := ⟨_, rfl⟩
  have hM9 : M 319 = I 319 := by rw [hM]; exact up2_row (by decide)
  have hM7 : M 318 7 = I 318 7 := by rw [hM, up2_same, if_neg (by decide)]
  rw [← hM]
  refine wp_aload0 (pc' := 6) rfl rfl ?_
  refine wp_iload2 (pc' := 7) rfl rfl ?_
  refine wp_iconst (v := nI 0) (pc' := 8) rfl rfl rfl ?_
  refine wp_iconst (v := nI 4) (pc' := 9) rfl rfl rfl ?_
  refine wp_callS3 (pc' := 12) rfl rfl rfl rfl rfl rfl ?_
  refine m_in1 (nI_pos (by omega)) (nI_nlt (by omega) (by omega)) ?_
  refine Cont.v ?_
  refine wp_ifneT rfl (by decide) ?_
  refine wp_iconst (v := nI 0) (pc' := 20) rfl rfl rfl ?_
  refine wp_iconst (v := nI 1) (pc' := 21) rfl rfl rfl ?_
  refine wp_callV3 (pc' := 24) rfl rfl rfl rfl rfl (by first | exact TK.k1 hT rfl | exact TK.kk hT rfl | exact TK.r hT rfl | assumption) rfl rfl ?_
  refine m_tfN hT ?_
  refine Cont.v ?_
  refine wp_ifeqT rfl rfl ?_
  refine wp_iload1 (pc' := 30) rfl rfl ?_
  refine wp_iconst (v := nI 0) (pc' := 31) rfl rfl rfl ?_
  refine wp_aload0 (pc' := 32) rfl rfl ?_
  refine wp_getRF (pc' := 35) rfl rfl (by first | exact TK.k1 hT rfl | exact TK.kk hT rfl | exact TK.r hT rfl | assumption) (by first | exact TK.k1 hT rfl | exact TK.kk hT rfl | exact TK.r hT rfl | assumption) rfl ?_
  refine wp_bipush (v := nI 7) (pc' := 37) rfl rfl rfl ?_
  refine wp_iald _ (pc' := 38) rfl (by first | exact TK.k1 hT rfl | exact TK.kk hT rfl | exact TK.r hT rfl | assumption) (by with_reducible rfl) (by omega) (by first | decide | assumption | omega) rfl ?_
  rw [hM9, hg]
  refine wp_iconst (v := nI 1) (pc' := 39) rfl rfl rfl ?_
  refine wp_isub (pc' := 40) rfl rfl ?_
  refine wp_callS3 (pc' := 43) rfl rfl rfl rfl rfl rfl ?_
  refine m_in0 (fun e => hx ((InR_iffN (by omega)).mp e)) ?_
  refine Cont.v ?_
  refine wp_ifeqT rfl rfl ?_
  refine wp_iconst (v := (-1)) (pc' := 56) rfl rfl rfl ?_
  refine wp_iret rfl rfl rfl ?_
  rw [hM]
  exact kk
theorem m_logE {d : Nat} {K : Nat → Nat × Nat} {I : Nat → Nat → Int32} {L : Nat → Nat → Int64} {R : Nat → Nat → Option Nat} {n s : Nat} {Q : Lo → Lm → Prop} {x y : Int32} (hT : TK K R n) (hx : ¬ InR y 5) (kk : Q (.inl (some (.int (nI 0)))) (K, up2 I 318 0 (nI 1), L, R, n, s)) : Ok (d + 2) 366 [.ref 318, .int x, .int y] (K, I, L, R, n, s) Q := by
  obtain ⟨-, -, hn⟩ := id hT
  refine Ok.enter (F := F_366) (ls := [.ref 318, .int x, .int y]) rfl rfl ?_
  refine wp_aload0 (pc' := 1) rfl rfl ?_
  refine wp_iconst (v := nI 0) (pc' := 2) rfl rfl rfl ?_
  refine wp_putI (pc' := 5) rfl rfl (by first | exact TK.k1 hT rfl | exact TK.kk hT rfl | exact TK.r hT rfl | assumption) (by omega) rfl ?_
  refine wp_aload0 (pc' := 6) rfl rfl ?_
  refine wp_iload2 (pc' := 7) rfl rfl ?_
  refine wp_iconst (v := nI 0) (pc' := 8) rfl rfl rfl ?_
  refine wp_iconst (v := nI 4) (pc' := 9) rfl rfl rfl ?_
  refine wp_callS3 (pc' := 12) rfl rfl rfl rfl rfl rfl ?_
  refine m_in0 (fun q => hx ((InR_iff (k := 4) (by decide)).mp q)) ?_
  refine Cont.v ?_
  refine wp_ifneF (pc' := 15) rfl rfl rfl ?_
  refine wp_iconst (v := nI 1) (pc' := 16) rfl rfl rfl ?_
  refine wp_goto rfl ?_
  refine wp_iconst (v := nI 1) (pc' := 21) rfl rfl rfl ?_
  refine wp_callV3 (pc' := 24) rfl rfl rfl rfl rfl (by first | exact TK.k1 hT rfl | exact TK.kk hT rfl | exact TK.r hT rfl | assumption) rfl rfl ?_
  refine m_tfY hT ?_
  refine Cont.v ?_
  refine wp_ifeqF (pc' := 27) rfl (by decide) rfl ?_
  refine wp_iconst (v := nI 0) (pc' := 28) rfl rfl rfl ?_
  refine wp_iret rfl rfl rfl ?_
  rw [up318]
  exact kk
theorem m_hearth0 {d : Nat} {K : Nat → Nat × Nat} {I : Nat → Nat → Int32} {L : Nat → Nat → Int64} {R : Nat → Nat → Option Nat} {n s : Nat} {Q : Lo → Lm → Prop} {h : Nat} (hT : TK K R n) {H : Nat} (hw : I 319 0 = nI H) (hH6 : H ≤ 6) (hh : h < H) (kk : Q (.inl (some (.int (I 319 (159 + 4 * h + 0))))) (K, up2 I 318 0 (nI 0), L, R, n, s)) : Ok (d + 5) 286 [.ref 318, .int (nI h), .int (nI 0)] (K, I, L, R, n, s) Q := by
  obtain ⟨-, -, hn⟩ := id hT
  refine Ok.enter (F := F_286) (ls := [.ref 318, .int (nI h), .int (nI 0)]) rfl rfl ?_
  refine wp_aload0 (pc' := 1) rfl rfl ?_
  refine wp_iconst (v := nI 0) (pc' := 2) rfl rfl rfl ?_
  refine wp_putI (pc' := 5) rfl rfl (by first | exact TK.k1 hT rfl | exact TK.kk hT rfl | exact TK.r hT rfl | assumption) (by omega) rfl ?_
  obtain ⟨M, hM⟩ : ∃ M, M = up2 I 318 0 (nI 0) := ⟨_, rfl⟩
  have hM9 : M 319 = I 319 := by rw [hM]; exact up2_row (by decide)
  have hM7 : M 318 7 = I 318 7 := by rw [hM, up2_same, if_neg (by decide)]
  rw [← hM]
  refine wp_aload0 (pc' := 6) rfl rfl ?_
  refine wp_aload0 (pc' := 7) rfl rfl ?_
  refine wp_iload1 (pc' := 8) rfl rfl ?_
  refine wp_callV2 (pc' := 11) rfl rfl rfl rfl rfl (by first | exact TK.k1 hT rfl | exact TK.kk hT rfl | exact TK.r hT rfl | assumption) rfl rfl ?_
  refine m_noH1 hT (by rw [hM9]; exact hw) hH6 hh ?_
  refine Cont.v ?_
  refine wp_iconst (v := nI 1) (pc' := 12) rfl rfl rfl ?_
  refine wp_callV3 (pc' := 15) rfl rfl rfl rfl rfl (by first | exact TK.k1 hT rfl | exact TK.kk hT rfl | exact TK.r hT rfl | assumption) rfl rfl ?_
  refine m_tfN hT ?_
  refine Cont.v ?_
  refine wp_ifneF (pc' := 18) rfl rfl rfl ?_
  refine wp_aload0 (pc' := 19) rfl rfl ?_
  refine wp_iload2 (pc' := 20) rfl rfl ?_
  refine wp_iconst (v := nI 0) (pc' := 21) rfl rfl rfl ?_
  refine wp_bipush (v := nI 6) (pc' := 23) rfl rfl rfl ?_
  refine wp_callS3 (pc' := 26) rfl rfl rfl rfl rfl rfl ?_
  refine m_in1 (by decide) (by decide) ?_
  refine Cont.v ?_
  refine wp_ifneT rfl (by decide) ?_
  refine wp_iconst (v := nI 0) (pc' := 34) rfl rfl rfl ?_
  refine wp_iconst (v := nI 2) (pc' := 35) rfl rfl rfl ?_
  refine wp_callV3 (pc' := 38) rfl rfl rfl rfl rfl (by first | exact TK.k1 hT rfl | exact TK.kk hT rfl | exact TK.r hT rfl | assumption) rfl rfl ?_
  refine m_tfN hT ?_
  refine Cont.v ?_
  refine wp_ifeqT rfl rfl ?_
  refine wp_iload2 (pc' := 44) rfl rfl ?_
  refine wp_sw (tg := 110) rfl rfl ?_
  refine wp_aload0 (pc' := 111) rfl rfl ?_
  refine wp_iload1 (pc' := 112) rfl rfl ?_
  refine wp_iload2 (pc' := 113) rfl rfl ?_
  refine wp_callV3 (pc' := 116) rfl rfl rfl rfl rfl (by first | exact TK.k1 hT rfl | exact TK.kk hT rfl | exact TK.r hT rfl | assumption) rfl rfl ?_
  refine m_ofH hT (by omega) (by decide) ?_
  rw [hM9]
  refine Cont.v ?_
  refine wp_iret rfl rfl rfl ?_
  rw [hM]
  exact kk
theorem m_hearth1 {d : Nat} {K : Nat → Nat × Nat} {I : Nat → Nat → Int32} {L : Nat → Nat → Int64} {R : Nat → Nat → Option Nat} {n s : Nat} {Q : Lo → Lm → Prop} {h : Nat} (hT : TK K R n) {H : Nat} (hw : I 319 0 = nI H) (hH6 : H ≤ 6) (hh : h < H) (kk : Q (.inl (some (.int (I 319 (159 + 4 * h + 1))))) (K, up2 I 318 0 (nI 0), L, R, n, s)) : Ok (d + 5) 286 [.ref 318, .int (nI h), .int (nI 1)] (K, I, L, R, n, s) Q := by
  obtain ⟨-, -, hn⟩ := id hT
  refine Ok.enter (F := F_286) (ls := [.ref 318, .int (nI h), .int (nI 1)]) rfl rfl ?_
  refine wp_aload0 (pc' := 1) rfl rfl ?_
  refine wp_iconst (v := nI 0) (pc' := 2) rfl rfl rfl ?_
  refine wp_putI (pc' := 5) rfl rfl (by first | exact TK.k1 hT rfl | exact TK.kk hT rfl | exact TK.r hT rfl | assumption) (by omega) rfl ?_
  obtain ⟨M, hM⟩ : ∃ M, M = up2 I 318 0 (nI 0) := ⟨_, rfl⟩
  have hM9 : M 319 = I 319 := by rw [hM]; exact up2_row (by decide)
  have hM7 : M 318 7 = I 318 7 := by rw [hM, up2_same, if_neg (by decide)]
  rw [← hM]
  refine wp_aload0 (pc' := 6) rfl rfl ?_
  refine wp_aload0 (pc' := 7) rfl rfl ?_
  refine wp_iload1 (pc' := 8) rfl rfl ?_
  refine wp_callV2 (pc' := 11) rfl rfl rfl rfl rfl (by first | exact TK.k1 hT rfl | exact TK.kk hT rfl | exact TK.r hT rfl | assumption) rfl rfl ?_
  refine m_noH1 hT (by rw [hM9]; exact hw) hH6 hh ?_
  refine Cont.v ?_
  refine wp_iconst (v := nI 1) (pc' := 12) rfl rfl rfl ?_
  refine wp_callV3 (pc' := 15) rfl rfl rfl rfl rfl (by first | exact TK.k1 hT rfl | exact TK.kk hT rfl | exact TK.r hT rfl | assumption) rfl rfl ?_
  refine m_tfN hT ?_
  refine Cont.v ?_
  refine wp_ifneF (pc' := 18) rfl rfl rfl ?_
  refine wp_aload0 (pc' := 19) rfl rfl ?_
  refine wp_iload2 (pc' := 20) rfl rfl ?_
  refine wp_iconst (v := nI 0) (pc' := 21) rfl rfl rfl ?_
  refine wp_bipush (v := nI 6) (pc' := 23) rfl rfl rfl ?_
  refine wp_callS3 (pc' := 26) rfl rfl rfl rfl rfl rfl ?_
  refine m_in1 (by decide) (by decide) ?_
  refine Cont.v ?_
  refine wp_ifneT rfl (by decide) ?_
  refine wp_iconst (v := nI 0) (pc' := 34) rfl rfl rfl ?_
  refine wp_iconst (v := nI 2) (pc' := 35) rfl rfl rfl ?_
  refine wp_callV3 (pc' := 38) rfl rfl rfl rfl rfl (by first | exact TK.k1 hT rfl | exact TK.kk hT rfl | exact TK.r hT rfl | assumption) rfl rfl ?_
  refine m_tfN hT ?_
  refine Cont.v ?_
  refine wp_ifeqT rfl rfl ?_
  refine wp_iload2 (pc' := 44) rfl rfl ?_
  refine wp_sw (tg := 110) rfl rfl ?_
  refine wp_aload0 (pc' := 111) rfl rfl ?_
  refine wp_iload1 (pc' := 112) rfl rfl ?_
  refine wp_iload2 (pc' := 113) rfl rfl ?_
  refine wp_callV3 (pc' := 116) rfl rfl rfl rfl rfl (by first | exact TK.k1 hT rfl | exact TK.kk hT rfl | exact TK.r hT rfl | assumption) rfl rfl ?_
  refine m_ofH hT (by omega) (by decide) ?_
  rw [hM9]
  refine Cont.v ?_
  refine wp_iret rfl rfl rfl ?_
  rw [hM]
  exact kk
theorem m_hearth2 {d : Nat} {K : Nat → Nat × Nat} {I : Nat → Nat → Int32} {L : Nat → Nat → Int64} {R : Nat → Nat → Option Nat} {n s : Nat} {Q : Lo → Lm → Prop} {h : Nat} (hT : TK K R n) {H : Nat} (hw : I 319 0 = nI H) (hH6 : H ≤ 6) (hh : h < H) (kk : Q (.inl (some (.int (I 319 (159 + 4 * h + 2))))) (K, up2 I 318 0 (nI 0), L, R, n, s)) : Ok (d + 5) 286 [.ref 318, .int (nI h), .int (nI 2)] (K, I, L, R, n, s) Q := by
  obtain ⟨-, -, hn⟩ := id hT
  refine Ok.enter (F := F_286) (ls := [.ref 318, .int (nI h), .int (nI 2)]) rfl rfl ?_
  refine wp_aload0 (pc' := 1) rfl rfl ?_
  refine wp_iconst (v := nI 0) (pc' := 2) rfl rfl rfl ?_
  refine wp_putI (pc' := 5) rfl rfl (by first | exact TK.k1 hT rfl | exact TK.kk hT rfl | exact TK.r hT rfl | assumption) (by omega) rfl ?_
  obtain ⟨M, hM⟩ : ∃ M, M = up2 I 318 0 (nI 0) := ⟨_, rfl⟩
  have hM9 : M 319 = I 319 := by rw [hM]; exact up2_row (by decide)
  have hM7 : M 318 7 = I 318 7 := by rw [hM, up2_same, if_neg (by decide)]
  rw [← hM]
  refine wp_aload0 (pc' := 6) rfl rfl ?_
  refine wp_aload0 (pc' := 7) rfl rfl ?_
  refine wp_iload1 (pc' := 8) rfl rfl ?_
  refine wp_callV2 (pc' := 11) rfl rfl rfl rfl rfl (by first | exact TK.k1 hT rfl | exact TK.kk hT rfl | exact TK.r hT rfl | assumption) rfl rfl ?_
  refine m_noH1 hT (by rw [hM9]; exact hw) hH6 hh ?_
  refine Cont.v ?_
  refine wp_iconst (v := nI 1) (pc' := 12) rfl rfl rfl ?_
  refine wp_callV3 (pc' := 15) rfl rfl rfl rfl rfl (by first | exact TK.k1 hT rfl | exact TK.kk hT rfl | exact TK.r hT rfl | assumption) rfl rfl ?_
  refine m_tfN hT ?_
  refine Cont.v ?_
  refine wp_ifneF (pc' := 18) rfl rfl rfl ?_
  refine wp_aload0 (pc' := 19) rfl rfl ?_
  refine wp_iload2 (pc' := 20) rfl rfl ?_
  refine wp_iconst (v := nI 0) (pc' := 21) rfl rfl rfl ?_
  refine wp_bipush (v := nI 6) (pc' := 23) rfl rfl rfl ?_
  refine wp_callS3 (pc' := 26) rfl rfl rfl rfl rfl rfl ?_
  refine m_in1 (by decide) (by decide) ?_
  refine Cont.v ?_
  refine wp_ifneT rfl (by decide) ?_
  refine wp_iconst (v := nI 0) (pc' := 34) rfl rfl rfl ?_
  refine wp_iconst (v := nI 2) (pc' := 35) rfl rfl rfl ?_
  refine wp_callV3 (pc' := 38) rfl rfl rfl rfl rfl (by first | exact TK.k1 hT rfl | exact TK.kk hT rfl | exact TK.r hT rfl | assumption) rfl rfl ?_
  refine m_tfN hT ?_
  refine Cont.v ?_
  refine wp_ifeqT rfl rfl ?_
  refine wp_iload2 (pc' := 44) rfl rfl ?_
  refine wp_sw (tg := 110) rfl rfl ?_
  refine wp_aload0 (pc' := 111) rfl rfl ?_
  refine wp_iload1 (pc' := 112) rfl rfl ?_
  refine wp_iload2 (pc' := 113) rfl rfl ?_
  refine wp_callV3 (pc' := 116) rfl rfl rfl rfl rfl (by first | exact TK.k1 hT rfl | exact TK.kk hT rfl | exact TK.r hT rfl | assumption) rfl rfl ?_
  refine m_ofH hT (by omega) (by decide) ?_
  rw [hM9]
  refine Cont.v ?_
  refine wp_iret rfl rfl rfl ?_
  rw [hM]
  exact kk
theorem m_hearth3 {d : Nat} {K : Nat → Nat × Nat} {I : Nat → Nat → Int32} {L : Nat → Nat → Int64} {R : Nat → Nat → Option Nat} {n s : Nat} {Q : Lo → Lm → Prop} {h : Nat} (hT : TK K R n) {H : Nat} (hw : I 319 0 = nI H) (hH6 : H ≤ 6) (hh : h < H) (kk : Q (.inl (some (.int (I 319 (159 + 4 * h + 3))))) (K, up2 I 318 0 (nI 0), L, R, n, s)) : Ok (d + 5) 286 [.ref 318, .int (nI h), .int (nI 3)] (K, I, L, R, n, s) Q := by
  obtain ⟨-, -, hn⟩ := id hT
  refine Ok.enter (F := F_286) (ls := [.ref 318, .int (nI h), .int (nI 3)]) rfl rfl ?_
  refine wp_aload0 (pc' := 1) rfl rfl ?_
  refine wp_iconst (v := nI 0) (pc' := 2) rfl rfl rfl ?_
  refine wp_putI (pc' := 5) rfl rfl (by first | exact TK.k1 hT rfl | exact TK.kk hT rfl | exact TK.r hT rfl | assumption) (by omega) rfl ?_
  obtain ⟨M, hM⟩ : ∃ M, M = up2 I 318 0 (nI 0) := ⟨_, rfl⟩
  have hM9 : M 319 = I 319 := by rw [hM]; exact up2_row (by decide)
  have hM7 : M 318 7 = I 318 7 := by rw [hM, up2_same, if_neg (by decide)]
  rw [← hM]
  refine wp_aload0 (pc' := 6) rfl rfl ?_
  refine wp_aload0 (pc' := 7) rfl rfl ?_
  refine wp_iload1 (pc' := 8) rfl rfl ?_
  refine wp_callV2 (pc' := 11) rfl rfl rfl rfl rfl (by first | exact TK.k1 hT rfl | exact TK.kk hT rfl | exact TK.r hT rfl | assumption) rfl rfl ?_
  refine m_noH1 hT (by rw [hM9]; exact hw) hH6 hh ?_
  refine Cont.v ?_
  refine wp_iconst (v := nI 1) (pc' := 12) rfl rfl rfl ?_
  refine wp_callV3 (pc' := 15) rfl rfl rfl rfl rfl (by first | exact TK.k1 hT rfl | exact TK.kk hT rfl | exact TK.r hT rfl | assumption) rfl rfl ?_
  refine m_tfN hT ?_
  refine Cont.v ?_
  refine wp_ifneF (pc' := 18) rfl rfl rfl ?_
  refine wp_aload0 (pc' := 19) rfl rfl ?_
  refine wp_iload2 (pc' := 20) rfl rfl ?_
  refine wp_iconst (v := nI 0) (pc' := 21) rfl rfl rfl ?_
  refine wp_bipush (v := nI 6) (pc' := 23) rfl rfl rfl ?_
  refine wp_callS3 (pc' := 26) rfl rfl rfl rfl rfl rfl ?_
  refine m_in1 (by decide) (by decide) ?_
  refine Cont.v ?_
  refine wp_ifneT rfl (by decide) ?_
  refine wp_iconst (v := nI 0) (pc' := 34) rfl rfl rfl ?_
  refine wp_iconst (v := nI 2) (pc' := 35) rfl rfl rfl ?_
  refine wp_callV3 (pc' := 38) rfl rfl rfl rfl rfl (by first | exact TK.k1 hT rfl | exact TK.kk hT rfl | exact TK.r hT rfl | assumption) rfl rfl ?_
  refine m_tfN hT ?_
  refine Cont.v ?_
  refine wp_ifeqT rfl rfl ?_
  refine wp_iload2 (pc' := 44) rfl rfl ?_
  refine wp_sw (tg := 110) rfl rfl ?_
  refine wp_aload0 (pc' := 111) rfl rfl ?_
  refine wp_iload1 (pc' := 112) rfl rfl ?_
  refine wp_iload2 (pc' := 113) rfl rfl ?_
  refine wp_callV3 (pc' := 116) rfl rfl rfl rfl rfl (by first | exact TK.k1 hT rfl | exact TK.kk hT rfl | exact TK.r hT rfl | assumption) rfl rfl ?_
  refine m_ofH hT (by omega) (by decide) ?_
  rw [hM9]
  refine Cont.v ?_
  refine wp_iret rfl rfl rfl ?_
  rw [hM]
  exact kk
theorem m_hearth4 {d : Nat} {K : Nat → Nat × Nat} {I : Nat → Nat → Int32} {L : Nat → Nat → Int64} {R : Nat → Nat → Option Nat} {n s : Nat} {Q : Lo → Lm → Prop} {h : Nat} (hT : TK K R n) {H : Nat} (hw : I 319 0 = nI H) (hH6 : H ≤ 6) (hh : h < H) (kk : Q (.inl (some (.int (lackS (Sv (I 319)) h)))) (K, up2 I 318 0 (nI 0), L, R, n, s)) : Ok (d + 5) 286 [.ref 318, .int (nI h), .int (nI 4)] (K, I, L, R, n, s) Q := by
  obtain ⟨-, -, hn⟩ := id hT
  refine Ok.enter (F := F_286) (ls := [.ref 318, .int (nI h), .int (nI 4)]) rfl rfl ?_
  refine wp_aload0 (pc' := 1) rfl rfl ?_
  refine wp_iconst (v := nI 0) (pc' := 2) rfl rfl rfl ?_
  refine wp_putI (pc' := 5) rfl rfl (by first | exact TK.k1 hT rfl | exact TK.kk hT rfl | exact TK.r hT rfl | assumption) (by omega) rfl ?_
  obtain ⟨M, hM⟩ : ∃ M, M = up2 I 318 0 (nI 0) := ⟨_, rfl⟩
  have hM9 : M 319 = I 319 := by rw [hM]; exact up2_row (by decide)
  have hM7 : M 318 7 = I 318 7 := by rw [hM, up2_same, if_neg (by decide)]
  rw [← hM]
  refine wp_aload0 (pc' := 6) rfl rfl ?_
  refine wp_aload0 (pc' := 7) rfl rfl ?_
  refine wp_iload1 (pc' := 8) rfl rfl ?_
  refine wp_callV2 (pc' := 11) rfl rfl rfl rfl rfl (by first | exact TK.k1 hT rfl | exact TK.kk hT rfl | exact TK.r hT rfl | assumption) rfl rfl ?_
  refine m_noH1 hT (by rw [hM9]; exact hw) hH6 hh ?_
  refine Cont.v ?_
  refine wp_iconst (v := nI 1) (pc' := 12) rfl rfl rfl ?_
  refine wp_callV3 (pc' := 15) rfl rfl rfl rfl rfl (by first | exact TK.k1 hT rfl | exact TK.kk hT rfl | exact TK.r hT rfl | assumption) rfl rfl ?_
  refine m_tfN hT ?_
  refine Cont.v ?_
  refine wp_ifneF (pc' := 18) rfl rfl rfl ?_
  refine wp_aload0 (pc' := 19) rfl rfl ?_
  refine wp_iload2 (pc' := 20) rfl rfl ?_
  refine wp_iconst (v := nI 0) (pc' := 21) rfl rfl rfl ?_
  refine wp_bipush (v := nI 6) (pc' := 23) rfl rfl rfl ?_
  refine wp_callS3 (pc' := 26) rfl rfl rfl rfl rfl rfl ?_
  refine m_in1 (by decide) (by decide) ?_
  refine Cont.v ?_
  refine wp_ifneT rfl (by decide) ?_
  refine wp_iconst (v := nI 0) (pc' := 34) rfl rfl rfl ?_
  refine wp_iconst (v := nI 2) (pc' := 35) rfl rfl rfl ?_
  refine wp_callV3 (pc' := 38) rfl rfl rfl rfl rfl (by first | exact TK.k1 hT rfl | exact TK.kk hT rfl | exact TK.r hT rfl | assumption) rfl rfl ?_
  refine m_tfN hT ?_
  refine Cont.v ?_
  refine wp_ifeqT rfl rfl ?_
  refine wp_iload2 (pc' := 44) rfl rfl ?_
  refine wp_sw (tg := 72) rfl rfl ?_
  refine wp_aload0 (pc' := 73) rfl rfl ?_
  refine wp_iload1 (pc' := 74) rfl rfl ?_
  refine wp_callV2 (pc' := 77) rfl rfl rfl rfl rfl (by first | exact TK.k1 hT rfl | exact TK.kk hT rfl | exact TK.r hT rfl | assumption) rfl rfl ?_
  refine m_lacksOf hT (by omega) ?_
  rw [hM9]
  refine Cont.v ?_
  refine wp_iret rfl rfl rfl ?_
  rw [hM]
  exact kk
theorem m_hearth5 {d : Nat} {K : Nat → Nat × Nat} {I : Nat → Nat → Int32} {L : Nat → Nat → Int64} {R : Nat → Nat → Option Nat} {n s : Nat} {Q : Lo → Lm → Prop} {h : Nat} (hT : TK K R n) {H : Nat} (hw : I 319 0 = nI H) (hH6 : H ≤ 6) (hh : h < H) (kk : Q (.inl (some (.int (fopS (Sv (I 319)) h)))) (K, up2 I 318 0 (nI 0), L, R, n, s)) : Ok (d + 5) 286 [.ref 318, .int (nI h), .int (nI 5)] (K, I, L, R, n, s) Q := by
  obtain ⟨-, -, hn⟩ := id hT
  refine Ok.enter (F := F_286) (ls := [.ref 318, .int (nI h), .int (nI 5)]) rfl rfl ?_
  refine wp_aload0 (pc' := 1) rfl rfl ?_
  refine wp_iconst (v := nI 0) (pc' := 2) rfl rfl rfl ?_
  refine wp_putI (pc' := 5) rfl rfl (by first | exact TK.k1 hT rfl | exact TK.kk hT rfl | exact TK.r hT rfl | assumption) (by omega) rfl ?_
  obtain ⟨M, hM⟩ : ∃ M, M = up2 I 318 0 (nI 0) := ⟨_, rfl⟩
  have hM9 : M 319 = I 319 := by rw [hM]; exact up2_row (by decide)
  have hM7 : M 318 7 = I 318 7 := by rw [hM, up2_same, if_neg (by decide)]
  rw [← hM]
  refine wp_aload0 (pc' := 6) rfl rfl ?_
  refine wp_aload0 (pc' := 7) rfl rfl ?_
  refine wp_iload1 (pc' := 8) rfl rfl ?_
  refine wp_callV2 (pc' := 11) rfl rfl rfl rfl rfl (by first | exact TK.k1 hT rfl | exact TK.kk hT rfl | exact TK.r hT rfl | assumption) rfl rfl ?_
  refine m_noH1 hT (by rw [hM9]; exact hw) hH6 hh ?_
  refine Cont.v ?_
  refine wp_iconst (v := nI 1) (pc' := 12) rfl rfl rfl ?_
  refine wp_callV3 (pc' := 15) rfl rfl rfl rfl rfl (by first | exact TK.k1 hT rfl | exact TK.kk hT rfl | exact TK.r hT rfl | assumption) rfl rfl ?_
  refine m_tfN hT ?_
  refine Cont.v ?_
  refine wp_ifneF (pc' := 18) rfl rfl rfl ?_
  refine wp_aload0 (pc' := 19) rfl rfl ?_
  refine wp_iload2 (pc' := 20) rfl rfl ?_
  refine wp_iconst (v := nI 0) (pc' := 21) rfl rfl rfl ?_
  refine wp_bipush (v := nI 6) (pc' := 23) rfl rfl rfl ?_
  refine wp_callS3 (pc' := 26) rfl rfl rfl rfl rfl rfl ?_
  refine m_in1 (by decide) (by decide) ?_
  refine Cont.v ?_
  refine wp_ifneT rfl (by decide) ?_
  refine wp_iconst (v := nI 0) (pc' := 34) rfl rfl rfl ?_
  refine wp_iconst (v := nI 2) (pc' := 35) rfl rfl rfl ?_
  refine wp_callV3 (pc' := 38) rfl rfl rfl rfl rfl (by first | exact TK.k1 hT rfl | exact TK.kk hT rfl | exact TK.r hT rfl | assumption) rfl rfl ?_
  refine m_tfN hT ?_
  refine Cont.v ?_
  refine wp_ifeqT rfl rfl ?_
  refine wp_iload2 (pc' := 44) rfl rfl ?_
  refine wp_sw (tg := 78) rfl rfl ?_
  refine wp_aload0 (pc' := 79) rfl rfl ?_
  refine wp_iload1 (pc' := 80) rfl rfl ?_
  refine wp_callV2 (pc' := 83) rfl rfl rfl rfl rfl (by first | exact TK.k1 hT rfl | exact TK.kk hT rfl | exact TK.r hT rfl | assumption) rfl rfl ?_
  refine m_cutsAt hT (by omega) ?_
  rw [hM9]
  refine Cont.v ?_
  refine wp_iret rfl rfl rfl ?_
  rw [hM]
  exact kk
theorem m_hearth6 {d : Nat} {K : Nat → Nat × Nat} {I : Nat → Nat → Int32} {L : Nat → Nat → Int64} {R : Nat → Nat → Option Nat} {n s : Nat} {Q : Lo → Lm → Prop} {h : Nat} (hT : TK K R n) {H : Nat} (hw : I 319 0 = nI H) (hH6 : H ≤ 6) (hh : h < H) (kk : Q (.inl (some (.int (if sumN ((Sv (I 319)) 8) H = nI 0 then nI 0 else nI 100 * I 319 (159 + 4 * h + 2) / sumN ((Sv (I 319)) 8) H)))) (K, up2 I 318 0 (nI 0), L, R, n, s)) : Ok (d + 5) 286 [.ref 318, .int (nI h), .int (nI 6)] (K, I, L, R, n, s) Q := by
  obtain ⟨-, -, hn⟩ := id hT
  refine Ok.enter (F := F_286) (ls := [.ref 318, .int (nI h), .int (nI 6)]) rfl rfl ?_
  refine wp_aload0 (pc' := 1) rfl rfl ?_
  refine wp_iconst (v := nI 0) (pc' := 2) rfl rfl rfl ?_
  refine wp_putI (pc' := 5) rfl rfl (by first | exact TK.k1 hT rfl | exact TK.kk hT rfl | exact TK.r hT rfl | assumption) (by omega) rfl ?_
  obtain ⟨M, hM⟩ : ∃ M, M = up2 I 318 0 (nI 0) := ⟨_, rfl⟩
  have hM9 : M 319 = I 319 := by rw [hM]; exact up2_row (by decide)
  have hM7 : M 318 7 = I 318 7 := by rw [hM, up2_same, if_neg (by decide)]
  rw [← hM]
  refine wp_aload0 (pc' := 6) rfl rfl ?_
  refine wp_aload0 (pc' := 7) rfl rfl ?_
  refine wp_iload1 (pc' := 8) rfl rfl ?_
  refine wp_callV2 (pc' := 11) rfl rfl rfl rfl rfl (by first | exact TK.k1 hT rfl | exact TK.kk hT rfl | exact TK.r hT rfl | assumption) rfl rfl ?_
  refine m_noH1 hT (by rw [hM9]; exact hw) hH6 hh ?_
  refine Cont.v ?_
  refine wp_iconst (v := nI 1) (pc' := 12) rfl rfl rfl ?_
  refine wp_callV3 (pc' := 15) rfl rfl rfl rfl rfl (by first | exact TK.k1 hT rfl | exact TK.kk hT rfl | exact TK.r hT rfl | assumption) rfl rfl ?_
  refine m_tfN hT ?_
  refine Cont.v ?_
  refine wp_ifneF (pc' := 18) rfl rfl rfl ?_
  refine wp_aload0 (pc' := 19) rfl rfl ?_
  refine wp_iload2 (pc' := 20) rfl rfl ?_
  refine wp_iconst (v := nI 0) (pc' := 21) rfl rfl rfl ?_
  refine wp_bipush (v := nI 6) (pc' := 23) rfl rfl rfl ?_
  refine wp_callS3 (pc' := 26) rfl rfl rfl rfl rfl rfl ?_
  refine m_in1 (by decide) (by decide) ?_
  refine Cont.v ?_
  refine wp_ifneT rfl (by decide) ?_
  refine wp_iconst (v := nI 0) (pc' := 34) rfl rfl rfl ?_
  refine wp_iconst (v := nI 2) (pc' := 35) rfl rfl rfl ?_
  refine wp_callV3 (pc' := 38) rfl rfl rfl rfl rfl (by first | exact TK.k1 hT rfl | exact TK.kk hT rfl | exact TK.r hT rfl | assumption) rfl rfl ?_
  refine m_tfN hT ?_
  refine Cont.v ?_
  refine wp_ifeqT rfl rfl ?_
  refine wp_iload2 (pc' := 44) rfl rfl ?_
  refine wp_sw (tg := 84) rfl rfl ?_
  refine wp_aload0 (pc' := 85) rfl rfl ?_
  refine wp_callV1 (pc' := 88) rfl rfl rfl rfl rfl (by first | exact TK.k1 hT rfl | exact TK.kk hT rfl | exact TK.r hT rfl | assumption) rfl rfl ?_
  refine m_storesOfAll hT (by rw [hM9]; exact hw) hH6 ?_
  rw [hM9]
  refine Cont.v ?_
  first | refine wp_ifneB (pc' := 91) rfl rfl ?_ ?_ | refine wp_ifne (pc' := 91) rfl rfl ?_ ?_
  · intro h88
    refine wp_bipush (v := nI 100) (pc' := 97) rfl rfl rfl ?_
    refine wp_aload0 (pc' := 98) rfl rfl ?_
    refine wp_iload1 (pc' := 99) rfl rfl ?_
    refine wp_iconst (v := nI 2) (pc' := 100) rfl rfl rfl ?_
    refine wp_callV3 (pc' := 103) rfl rfl rfl rfl rfl (by first | exact TK.k1 hT rfl | exact TK.kk hT rfl | exact TK.r hT rfl | assumption) rfl rfl ?_
    refine m_ofH hT (by omega) (by decide) ?_
    rw [hM9]
    refine Cont.v ?_
    first | refine wp_imulN (pc' := 104) rfl (by with_reducible rfl) (by with_reducible rfl) rfl ?_ | refine wp_imul (pc' := 104) rfl rfl ?_
    refine wp_aload0 (pc' := 105) rfl rfl ?_
    refine wp_callV1 (pc' := 108) rfl rfl rfl rfl rfl (by first | exact TK.k1 hT rfl | exact TK.kk hT rfl | exact TK.r hT rfl | assumption) rfl rfl ?_
    refine m_storesOfAll hT (by rw [hM9]; exact hw) hH6 ?_
    rw [hM9]
    refine Cont.v ?_
    first | refine wp_idivN (pc' := 109) rfl (by with_reducible rfl) (by with_reducible rfl) (by omega) (by omega) (by omega) rfl ?_ | refine wp_idiv (pc' := 109) rfl h88 rfl ?_
    refine wp_iret rfl rfl rfl ?_
    rw [hM]
    first | exact Qv kk (by rw [if_pos h88]) rfl | exact Qv kk (by rw [if_neg h88]) rfl
  · intro h88
    refine wp_iconst (v := nI 0) (pc' := 92) rfl rfl rfl ?_
    refine wp_goto rfl ?_
    refine wp_iret rfl rfl rfl ?_
    rw [hM]
    first | exact Qv kk (by rw [if_pos h88]) rfl | exact Qv kk (by rw [if_neg h88]) rfl
theorem m_hearthE1 {d : Nat} {K : Nat → Nat × Nat} {I : Nat → Nat → Int32} {L : Nat → Nat → Int64} {R : Nat → Nat → Option Nat} {n s : Nat} {Q : Lo → Lm → Prop} {x y : Int32} (hT : TK K R n) {H : Nat} (hw : I 319 0 = nI H) (hH6 : H ≤ 6) (hx : ¬ InR x H) (kk : Q (.inl (some (.int (nI 0)))) (K, up2 I 318 0 (nI 1), L, R, n, s)) : Ok (d + 5) 286 [.ref 318, .int x, .int y] (K, I, L, R, n, s) Q := by
  obtain ⟨-, -, hn⟩ := id hT
  refine Ok.enter (F := F_286) (ls := [.ref 318, .int x, .int y]) rfl rfl ?_
  refine wp_aload0 (pc' := 1) rfl rfl ?_
  refine wp_iconst (v := nI 0) (pc' := 2) rfl rfl rfl ?_
  refine wp_putI (pc' := 5) rfl rfl (by first | exact TK.k1 hT rfl | exact TK.kk hT rfl | exact TK.r hT rfl | assumption) (by omega) rfl ?_
  refine wp_aload0 (pc' := 6) rfl rfl ?_
  refine wp_aload0 (pc' := 7) rfl rfl ?_
  refine wp_iload1 (pc' := 8) rfl rfl ?_
  refine wp_callV2 (pc' := 11) rfl rfl rfl rfl rfl (by first | exact TK.k1 hT rfl | exact TK.kk hT rfl | exact TK.r hT rfl | assumption) rfl rfl ?_
  refine m_noH0 hT (by rw [up2_row (by decide)]; exact hw) hH6 hx ?_
  refine Cont.v ?_
  refine wp_iconst (v := nI 1) (pc' := 12) rfl rfl rfl ?_
  refine wp_callV3 (pc' := 15) rfl rfl rfl rfl rfl (by first | exact TK.k1 hT rfl | exact TK.kk hT rfl | exact TK.r hT rfl | assumption) rfl rfl ?_
  refine m_tfY hT ?_
  refine Cont.v ?_
  refine wp_ifneT rfl (by decide) ?_
  refine wp_iconst (v := nI 0) (pc' := 42) rfl rfl rfl ?_
  refine wp_iret rfl rfl rfl ?_
  rw [up318]
  exact kk
theorem m_hearthE2 {d : Nat} {K : Nat → Nat × Nat} {I : Nat → Nat → Int32} {L : Nat → Nat → Int64} {R : Nat → Nat → Option Nat} {n s : Nat} {Q : Lo → Lm → Prop} {h : Nat} {y : Int32} (hT : TK K R n) {H : Nat} (hw : I 319 0 = nI H) (hH6 : H ≤ 6) (hh : h < H) (hy : ¬ InR y 7) (kk : Q (.inl (some (.int (nI 0)))) (K, up2 I 318 0 (nI 2), L, R, n, s)) : Ok (d + 5) 286 [.ref 318, .int (nI h), .int y] (K, I, L, R, n, s) Q := by
  obtain ⟨-, -, hn⟩ := id hT
  refine Ok.enter (F := F_286) (ls := [.ref 318, .int (nI h), .int y]) rfl rfl ?_
  refine wp_aload0 (pc' := 1) rfl rfl ?_
  refine wp_iconst (v := nI 0) (pc' := 2) rfl rfl rfl ?_
  refine wp_putI (pc' := 5) rfl rfl (by first | exact TK.k1 hT rfl | exact TK.kk hT rfl | exact TK.r hT rfl | assumption) (by omega) rfl ?_
  refine wp_aload0 (pc' := 6) rfl rfl ?_
  refine wp_aload0 (pc' := 7) rfl rfl ?_
  refine wp_iload1 (pc' := 8) rfl rfl ?_
  refine wp_callV2 (pc' := 11) rfl rfl rfl rfl rfl (by first | exact TK.k1 hT rfl | exact TK.kk hT rfl | exact TK.r hT rfl | assumption) rfl rfl ?_
  refine m_noH1 hT (by rw [up2_row (by decide)]; exact hw) hH6 hh ?_
  refine Cont.v ?_
  refine wp_iconst (v := nI 1) (pc' := 12) rfl rfl rfl ?_
  refine wp_callV3 (pc' := 15) rfl rfl rfl rfl rfl (by first | exact TK.k1 hT rfl | exact TK.kk hT rfl | exact TK.r hT rfl | assumption) rfl rfl ?_
  refine m_tfN hT ?_
  refine Cont.v ?_
  refine wp_ifneF (pc' := 18) rfl rfl rfl ?_
  refine wp_aload0 (pc' := 19) rfl rfl ?_
  refine wp_iload2 (pc' := 20) rfl rfl ?_
  refine wp_iconst (v := nI 0) (pc' := 21) rfl rfl rfl ?_
  refine wp_bipush (v := nI 6) (pc' := 23) rfl rfl rfl ?_
  refine wp_callS3 (pc' := 26) rfl rfl rfl rfl rfl rfl ?_
  refine m_in0 (fun q => hy ((InR_iff (k := 6) (by decide)).mp q)) ?_
  refine Cont.v ?_
  refine wp_ifneF (pc' := 29) rfl rfl rfl ?_
  refine wp_iconst (v := nI 1) (pc' := 30) rfl rfl rfl ?_
  refine wp_goto rfl ?_
  refine wp_iconst (v := nI 2) (pc' := 35) rfl rfl rfl ?_
  refine wp_callV3 (pc' := 38) rfl rfl rfl rfl rfl (by first | exact TK.k1 hT rfl | exact TK.kk hT rfl | exact TK.r hT rfl | assumption) rfl rfl ?_
  refine m_tfY hT ?_
  refine Cont.v ?_
  refine wp_ifeqF (pc' := 41) rfl (by decide) rfl ?_
  refine wp_iconst (v := nI 0) (pc' := 42) rfl rfl rfl ?_
  refine wp_iret rfl rfl rfl ?_
  rw [up318]
  exact kk
theorem m_count0 {d : Nat} {K : Nat → Nat × Nat} {I : Nat → Nat → Int32} {L : Nat → Nat → Int64} {R : Nat → Nat → Option Nat} {n s : Nat} {Q : Lo → Lm → Prop}  (hT : TK K R n)  (kk : Q (.inl (some (.int (I 319 0)))) (K, up2 I 318 0 (nI 0), L, R, n, s)) : Ok (d + 4) 368 [.ref 318, .int (nI 0)] (K, I, L, R, n, s) Q := by
  obtain ⟨-, -, hn⟩ := id hT
  refine Ok.enter (F := F_368) (ls := [.ref 318, .int (nI 0)]) rfl rfl ?_
  refine wp_aload0 (pc' := 1) rfl rfl ?_
  refine wp_iconst (v := nI 0) (pc' := 2) rfl rfl rfl ?_
  refine wp_putI (pc' := 5) rfl rfl (by first | exact TK.k1 hT rfl | exact TK.kk hT rfl | exact TK.r hT rfl | assumption) (by omega) rfl ?_
  obtain ⟨M, hM⟩ : ∃ M, M = up2 I 318 0 (nI 0) := ⟨_, rfl⟩
  have hM9 : M 319 = I 319 := by rw [hM]; exact up2_row (by decide)
  have hM7 : M 318 7 = I 318 7 := by rw [hM, up2_same, if_neg (by decide)]
  rw [← hM]
  refine wp_iload1 (pc' := 6) rfl rfl ?_
  refine wp_sw (tg := 123) rfl rfl ?_
  refine wp_iload1 (pc' := 124) rfl rfl ?_
  refine wp_iconst (v := nI 0) (pc' := 125) rfl rfl rfl ?_
  refine wp_bipush (v := nI 6) (pc' := 127) rfl rfl rfl ?_
  refine wp_callS3 (pc' := 130) rfl rfl rfl rfl rfl rfl ?_
  refine m_in1 (by decide) (by decide) ?_
  refine Cont.v ?_
  refine wp_ifeqF (pc' := 133) rfl (by decide) rfl ?_
  refine wp_aload0 (pc' := 134) rfl rfl ?_
  refine wp_getRF (pc' := 137) rfl rfl (by first | exact TK.k1 hT rfl | exact TK.kk hT rfl | exact TK.r hT rfl | assumption) (by first | exact TK.k1 hT rfl | exact TK.kk hT rfl | exact TK.r hT rfl | assumption) rfl ?_
  refine wp_iload1 (pc' := 138) rfl rfl ?_
  refine wp_iald _ (pc' := 139) rfl (by first | exact TK.k1 hT rfl | exact TK.kk hT rfl | exact TK.r hT rfl | assumption) (by with_reducible rfl) (by omega) (by first | decide | assumption | omega) rfl ?_
  refine wp_goto rfl ?_
  refine wp_iret rfl rfl rfl ?_
  first | rw [hM9, hM] | rw [hM7, hM] | rw [hM]
  exact kk
theorem m_count1 {d : Nat} {K : Nat → Nat × Nat} {I : Nat → Nat → Int32} {L : Nat → Nat → Int64} {R : Nat → Nat → Option Nat} {n s : Nat} {Q : Lo → Lm → Prop}  (hT : TK K R n)  (kk : Q (.inl (some (.int (I 319 1)))) (K, up2 I 318 0 (nI 0), L, R, n, s)) : Ok (d + 4) 368 [.ref 318, .int (nI 1)] (K, I, L, R, n, s) Q := by
  obtain ⟨-, -, hn⟩ := id hT
  refine Ok.enter (F := F_368) (ls := [.ref 318, .int (nI 1)]) rfl rfl ?_
  refine wp_aload0 (pc' := 1) rfl rfl ?_
  refine wp_iconst (v := nI 0) (pc' := 2) rfl rfl rfl ?_
  refine wp_putI (pc' := 5) rfl rfl (by first | exact TK.k1 hT rfl | exact TK.kk hT rfl | exact TK.r hT rfl | assumption) (by omega) rfl ?_
  obtain ⟨M, hM⟩ : ∃ M, M = up2 I 318 0 (nI 0) := ⟨_, rfl⟩
  have hM9 : M 319 = I 319 := by rw [hM]; exact up2_row (by decide)
  have hM7 : M 318 7 = I 318 7 := by rw [hM, up2_same, if_neg (by decide)]
  rw [← hM]
  refine wp_iload1 (pc' := 6) rfl rfl ?_
  refine wp_sw (tg := 123) rfl rfl ?_
  refine wp_iload1 (pc' := 124) rfl rfl ?_
  refine wp_iconst (v := nI 0) (pc' := 125) rfl rfl rfl ?_
  refine wp_bipush (v := nI 6) (pc' := 127) rfl rfl rfl ?_
  refine wp_callS3 (pc' := 130) rfl rfl rfl rfl rfl rfl ?_
  refine m_in1 (by decide) (by decide) ?_
  refine Cont.v ?_
  refine wp_ifeqF (pc' := 133) rfl (by decide) rfl ?_
  refine wp_aload0 (pc' := 134) rfl rfl ?_
  refine wp_getRF (pc' := 137) rfl rfl (by first | exact TK.k1 hT rfl | exact TK.kk hT rfl | exact TK.r hT rfl | assumption) (by first | exact TK.k1 hT rfl | exact TK.kk hT rfl | exact TK.r hT rfl | assumption) rfl ?_
  refine wp_iload1 (pc' := 138) rfl rfl ?_
  refine wp_iald _ (pc' := 139) rfl (by first | exact TK.k1 hT rfl | exact TK.kk hT rfl | exact TK.r hT rfl | assumption) (by with_reducible rfl) (by omega) (by first | decide | assumption | omega) rfl ?_
  refine wp_goto rfl ?_
  refine wp_iret rfl rfl rfl ?_
  first | rw [hM9, hM] | rw [hM7, hM] | rw [hM]
  exact kk
theorem m_count3 {d : Nat} {K : Nat → Nat × Nat} {I : Nat → Nat → Int32} {L : Nat → Nat → Int64} {R : Nat → Nat → Option Nat} {n s : Nat} {Q : Lo → Lm → Prop}  (hT : TK K R n)  (kk : Q (.inl (some (.int (I 319 3)))) (K, up2 I 318 0 (nI 0), L, R, n, s)) : Ok (d + 4) 368 [.ref 318, .int (nI 3)] (K, I, L, R, n, s) Q := by
  obtain ⟨-, -, hn⟩ := id hT
  refine Ok.enter (F := F_368) (ls := [.ref 318, .int (nI 3)]) rfl rfl ?_
  refine wp_aload0 (pc' := 1) rfl rfl ?_
  refine wp_iconst (v := nI 0) (pc' := 2) rfl rfl rfl ?_
  refine wp_putI (pc' := 5) rfl rfl (by first | exact TK.k1 hT rfl | exact TK.kk hT rfl | exact TK.r hT rfl | assumption) (by omega) rfl ?_
  obtain ⟨M, hM⟩ : ∃ M, M = up2 I 318 0 (nI 0) := ⟨_, rfl⟩
  have hM9 : M 319 = I 319 := by rw [hM]; exact up2_row (by decide)
  have hM7 : M 318 7 = I 318 7 := by rw [hM, up2_same, if_neg (by decide)]
  rw [← hM]
  refine wp_iload1 (pc' := 6) rfl rfl ?_
  refine wp_sw (tg := 123) rfl rfl ?_
  refine wp_iload1 (pc' := 124) rfl rfl ?_
  refine wp_iconst (v := nI 0) (pc' := 125) rfl rfl rfl ?_
  refine wp_bipush (v := nI 6) (pc' := 127) rfl rfl rfl ?_
  refine wp_callS3 (pc' := 130) rfl rfl rfl rfl rfl rfl ?_
  refine m_in1 (by decide) (by decide) ?_
  refine Cont.v ?_
  refine wp_ifeqF (pc' := 133) rfl (by decide) rfl ?_
  refine wp_aload0 (pc' := 134) rfl rfl ?_
  refine wp_getRF (pc' := 137) rfl rfl (by first | exact TK.k1 hT rfl | exact TK.kk hT rfl | exact TK.r hT rfl | assumption) (by first | exact TK.k1 hT rfl | exact TK.kk hT rfl | exact TK.r hT rfl | assumption) rfl ?_
  refine wp_iload1 (pc' := 138) rfl rfl ?_
  refine wp_iald _ (pc' := 139) rfl (by first | exact TK.k1 hT rfl | exact TK.kk hT rfl | exact TK.r hT rfl | assumption) (by with_reducible rfl) (by omega) (by first | decide | assumption | omega) rfl ?_
  refine wp_goto rfl ?_
  refine wp_iret rfl rfl rfl ?_
  first | rw [hM9, hM] | rw [hM7, hM] | rw [hM]
  exact kk
theorem m_count4 {d : Nat} {K : Nat → Nat × Nat} {I : Nat → Nat → Int32} {L : Nat → Nat → Int64} {R : Nat → Nat → Option Nat} {n s : Nat} {Q : Lo → Lm → Prop}  (hT : TK K R n)  (kk : Q (.inl (some (.int (I 319 4)))) (K, up2 I 318 0 (nI 0), L, R, n, s)) : Ok (d + 4) 368 [.ref 318, .int (nI 4)] (K, I, L, R, n, s) Q := by
  obtain ⟨-, -, hn⟩ := id hT
  refine Ok.enter (F := F_368) (ls := [.ref 318, .int (nI 4)]) rfl rfl ?_
  refine wp_aload0 (pc' := 1) rfl rfl ?_
  refine wp_iconst (v := nI 0) (pc' := 2) rfl rfl rfl ?_
  refine wp_putI (pc' := 5) rfl rfl (by first | exact TK.k1 hT rfl | exact TK.kk hT rfl | exact TK.r hT rfl | assumption) (by omega) rfl ?_
  obtain ⟨M, hM⟩ : ∃ M, M = up2 I 318 0 (nI 0) := ⟨_, rfl⟩
  have hM9 : M 319 = I 319 := by rw [hM]; exact up2_row (by decide)
  have hM7 : M 318 7 = I 318 7 := by rw [hM, up2_same, if_neg (by decide)]
  rw [← hM]
  refine wp_iload1 (pc' := 6) rfl rfl ?_
  refine wp_sw (tg := 123) rfl rfl ?_
  refine wp_iload1 (pc' := 124) rfl rfl ?_
  refine wp_iconst (v := nI 0) (pc' := 125) rfl rfl rfl ?_
  refine wp_bipush (v := nI 6) (pc' := 127) rfl rfl rfl ?_
  refine wp_callS3 (pc' := 130) rfl rfl rfl rfl rfl rfl ?_
  refine m_in1 (by decide) (by decide) ?_
  refine Cont.v ?_
  refine wp_ifeqF (pc' := 133) rfl (by decide) rfl ?_
  refine wp_aload0 (pc' := 134) rfl rfl ?_
  refine wp_getRF (pc' := 137) rfl rfl (by first | exact TK.k1 hT rfl | exact TK.kk hT rfl | exact TK.r hT rfl | assumption) (by first | exact TK.k1 hT rfl | exact TK.kk hT rfl | exact TK.r hT rfl | assumption) rfl ?_
  refine wp_iload1 (pc' := 138) rfl rfl ?_
  refine wp_iald _ (pc' := 139) rfl (by first | exact TK.k1 hT rfl | exact TK.kk hT rfl | exact TK.r hT rfl | assumption) (by with_reducible rfl) (by omega) (by first | decide | assumption | omega) rfl ?_
  refine wp_goto rfl ?_
  refine wp_iret rfl rfl rfl ?_
  first | rw [hM9, hM] | rw [hM7, hM] | rw [hM]
  exact kk
theorem m_count5 {d : Nat} {K : Nat → Nat × Nat} {I : Nat → Nat → Int32} {L : Nat → Nat → Int64} {R : Nat → Nat → Option Nat} {n s : Nat} {Q : Lo → Lm → Prop}  (hT : TK K R n)  (kk : Q (.inl (some (.int (I 319 5)))) (K, up2 I 318 0 (nI 0), L, R, n, s)) : Ok (d + 4) 368 [.ref 318, .int (nI 5)] (K, I, L, R, n, s) Q := by
  obtain ⟨-, -, hn⟩ := id hT
  refine Ok.enter (F := F_368) (ls := [.ref 318, .int (nI 5)]) rfl rfl ?_
  refine wp_aload0 (pc' := 1) rfl rfl ?_
  refine wp_iconst (v := nI 0) (pc' := 2) rfl rfl rfl ?_
  refine wp_putI (pc' := 5) rfl rfl (by first | exact TK.k1 hT rfl | exact TK.kk hT rfl | exact TK.r hT rfl | assumption) (by omega) rfl ?_
  obtain ⟨M, hM⟩ : ∃ M, M = up2 I 318 0 (nI 0) := ⟨_, rfl⟩
  have hM9 : M 319 = I 319 := by rw [hM]; exact up2_row (by decide)
  have hM7 : M 318 7 = I 318 7 := by rw [hM, up2_same, if_neg (by decide)]
  rw [← hM]
  refine wp_iload1 (pc' := 6) rfl rfl ?_
  refine wp_sw (tg := 123) rfl rfl ?_
  refine wp_iload1 (pc' := 124) rfl rfl ?_
  refine wp_iconst (v := nI 0) (pc' := 125) rfl rfl rfl ?_
  refine wp_bipush (v := nI 6) (pc' := 127) rfl rfl rfl ?_
  refine wp_callS3 (pc' := 130) rfl rfl rfl rfl rfl rfl ?_
  refine m_in1 (by decide) (by decide) ?_
  refine Cont.v ?_
  refine wp_ifeqF (pc' := 133) rfl (by decide) rfl ?_
  refine wp_aload0 (pc' := 134) rfl rfl ?_
  refine wp_getRF (pc' := 137) rfl rfl (by first | exact TK.k1 hT rfl | exact TK.kk hT rfl | exact TK.r hT rfl | assumption) (by first | exact TK.k1 hT rfl | exact TK.kk hT rfl | exact TK.r hT rfl | assumption) rfl ?_
  refine wp_iload1 (pc' := 138) rfl rfl ?_
  refine wp_iald _ (pc' := 139) rfl (by first | exact TK.k1 hT rfl | exact TK.kk hT rfl | exact TK.r hT rfl | assumption) (by with_reducible rfl) (by omega) (by first | decide | assumption | omega) rfl ?_
  refine wp_goto rfl ?_
  refine wp_iret rfl rfl rfl ?_
  first | rw [hM9, hM] | rw [hM7, hM] | rw [hM]
  exact kk
theorem m_count6 {d : Nat} {K : Nat → Nat × Nat} {I : Nat → Nat → Int32} {L : Nat → Nat → Int64} {R : Nat → Nat → Option Nat} {n s : Nat} {Q : Lo → Lm → Prop}  (hT : TK K R n)  (kk : Q (.inl (some (.int (I 319 6)))) (K, up2 I 318 0 (nI 0), L, R, n, s)) : Ok (d + 4) 368 [.ref 318, .int (nI 6)] (K, I, L, R, n, s) Q := by
  obtain ⟨-, -, hn⟩ := id hT
  refine Ok.enter (F := F_368) (ls := [.ref 318, .int (nI 6)]) rfl rfl ?_
  refine wp_aload0 (pc' := 1) rfl rfl ?_
  refine wp_iconst (v := nI 0) (pc' := 2) rfl rfl rfl ?_
  refine wp_putI (pc' := 5) rfl rfl (by first | exact TK.k1 hT rfl | exact TK.kk hT rfl | exact TK.r hT rfl | assumption) (by omega) rfl ?_
  obtain ⟨M, hM⟩ : ∃ M, M = up2 I 318 0 (nI 0) := ⟨_, rfl⟩
  have hM9 : M 319 = I 319 := by rw [hM]; exact up2_row (by decide)
  have hM7 : M 318 7 = I 318 7 := by rw [hM, up2_same, if_neg (by decide)]
  rw [← hM]
  refine wp_iload1 (pc' := 6) rfl rfl ?_
  refine wp_sw (tg := 123) rfl rfl ?_
  refine wp_iload1 (pc' := 124) rfl rfl ?_
  refine wp_iconst (v := nI 0) (pc' := 125) rfl rfl rfl ?_
  refine wp_bipush (v := nI 6) (pc' := 127) rfl rfl rfl ?_
  refine wp_callS3 (pc' := 130) rfl rfl rfl rfl rfl rfl ?_
  refine m_in1 (by decide) (by decide) ?_
  refine Cont.v ?_
  refine wp_ifeqF (pc' := 133) rfl (by decide) rfl ?_
  refine wp_aload0 (pc' := 134) rfl rfl ?_
  refine wp_getRF (pc' := 137) rfl rfl (by first | exact TK.k1 hT rfl | exact TK.kk hT rfl | exact TK.r hT rfl | assumption) (by first | exact TK.k1 hT rfl | exact TK.kk hT rfl | exact TK.r hT rfl | assumption) rfl ?_
  refine wp_iload1 (pc' := 138) rfl rfl ?_
  refine wp_iald _ (pc' := 139) rfl (by first | exact TK.k1 hT rfl | exact TK.kk hT rfl | exact TK.r hT rfl | assumption) (by with_reducible rfl) (by omega) (by first | decide | assumption | omega) rfl ?_
  refine wp_goto rfl ?_
  refine wp_iret rfl rfl rfl ?_
  first | rw [hM9, hM] | rw [hM7, hM] | rw [hM]
  exact kk
theorem m_count7 {d : Nat} {K : Nat → Nat × Nat} {I : Nat → Nat → Int32} {L : Nat → Nat → Int64} {R : Nat → Nat → Option Nat} {n s : Nat} {Q : Lo → Lm → Prop}  (hT : TK K R n)  (kk : Q (.inl (some (.int (sumN (fun c => I 319 (9 + 6 * c + 0)) 25)))) (K, up2 I 318 0 (nI 0), L, R, n, s)) : Ok (d + 4) 368 [.ref 318, .int (nI 7)] (K, I, L, R, n, s) Q := by
  obtain ⟨-, -, hn⟩ := id hT
  refine Ok.enter (F := F_368) (ls := [.ref 318, .int (nI 7)]) rfl rfl ?_
  refine wp_aload0 (pc' := 1) rfl rfl ?_
  refine wp_iconst (v := nI 0) (pc' := 2) rfl rfl rfl ?_
  refine wp_putI (pc' := 5) rfl rfl (by first | exact TK.k1 hT rfl | exact TK.kk hT rfl | exact TK.r hT rfl | assumption) (by omega) rfl ?_
  obtain ⟨M, hM⟩ : ∃ M, M = up2 I 318 0 (nI 0) := ⟨_, rfl⟩
  have hM9 : M 319 = I 319 := by rw [hM]; exact up2_row (by decide)
  have hM7 : M 318 7 = I 318 7 := by rw [hM, up2_same, if_neg (by decide)]
  rw [← hM]
  refine wp_iload1 (pc' := 6) rfl rfl ?_
  refine wp_sw (tg := 87) rfl rfl ?_
  refine wp_aload0 (pc' := 88) rfl rfl ?_
  refine wp_iconst (v := nI 0) (pc' := 89) rfl rfl rfl ?_
  refine wp_callV2 (pc' := 92) rfl rfl rfl rfl rfl (by first | exact TK.k1 hT rfl | exact TK.kk hT rfl | exact TK.r hT rfl | assumption) rfl rfl ?_
  refine m_sumOfAll hT (by decide) ?_
  rw [hM9]
  refine Cont.v ?_
  refine wp_iret rfl rfl rfl ?_
  first | rw [hM9, hM] | rw [hM7, hM] | rw [hM]
  exact kk
theorem m_count8 {d : Nat} {K : Nat → Nat × Nat} {I : Nat → Nat → Int32} {L : Nat → Nat → Int64} {R : Nat → Nat → Option Nat} {n s : Nat} {Q : Lo → Lm → Prop}  (hT : TK K R n)  (kk : Q (.inl (some (.int (sumN (fun c => I 319 (9 + 6 * c + 3)) 25)))) (K, up2 I 318 0 (nI 0), L, R, n, s)) : Ok (d + 4) 368 [.ref 318, .int (nI 8)] (K, I, L, R, n, s) Q := by
  obtain ⟨-, -, hn⟩ := id hT
  refine Ok.enter (F := F_368) (ls := [.ref 318, .int (nI 8)]) rfl rfl ?_
  refine wp_aload0 (pc' := 1) rfl rfl ?_
  refine wp_iconst (v := nI 0) (pc' := 2) rfl rfl rfl ?_
  refine wp_putI (pc' := 5) rfl rfl (by first | exact TK.k1 hT rfl | exact TK.kk hT rfl | exact TK.r hT rfl | assumption) (by omega) rfl ?_
  obtain ⟨M, hM⟩ : ∃ M, M = up2 I 318 0 (nI 0) := ⟨_, rfl⟩
  have hM9 : M 319 = I 319 := by rw [hM]; exact up2_row (by decide)
  have hM7 : M 318 7 = I 318 7 := by rw [hM, up2_same, if_neg (by decide)]
  rw [← hM]
  refine wp_iload1 (pc' := 6) rfl rfl ?_
  refine wp_sw (tg := 93) rfl rfl ?_
  refine wp_aload0 (pc' := 94) rfl rfl ?_
  refine wp_iconst (v := nI 3) (pc' := 95) rfl rfl rfl ?_
  refine wp_callV2 (pc' := 98) rfl rfl rfl rfl rfl (by first | exact TK.k1 hT rfl | exact TK.kk hT rfl | exact TK.r hT rfl | assumption) rfl rfl ?_
  refine m_sumOfAll hT (by decide) ?_
  rw [hM9]
  refine Cont.v ?_
  refine wp_iret rfl rfl rfl ?_
  first | rw [hM9, hM] | rw [hM7, hM] | rw [hM]
  exact kk
theorem m_count9 {d : Nat} {K : Nat → Nat × Nat} {I : Nat → Nat → Int32} {L : Nat → Nat → Int64} {R : Nat → Nat → Option Nat} {n s : Nat} {Q : Lo → Lm → Prop}  (hT : TK K R n) {H : Nat} (hw : I 319 0 = nI H) (hH6 : H ≤ 6) (kk : Q (.inl (some (.int (sumN ((Sv (I 319)) 8) H)))) (K, up2 I 318 0 (nI 0), L, R, n, s)) : Ok (d + 4) 368 [.ref 318, .int (nI 9)] (K, I, L, R, n, s) Q := by
  obtain ⟨-, -, hn⟩ := id hT
  refine Ok.enter (F := F_368) (ls := [.ref 318, .int (nI 9)]) rfl rfl ?_
  refine wp_aload0 (pc' := 1) rfl rfl ?_
  refine wp_iconst (v := nI 0) (pc' := 2) rfl rfl rfl ?_
  refine wp_putI (pc' := 5) rfl rfl (by first | exact TK.k1 hT rfl | exact TK.kk hT rfl | exact TK.r hT rfl | assumption) (by omega) rfl ?_
  obtain ⟨M, hM⟩ : ∃ M, M = up2 I 318 0 (nI 0) := ⟨_, rfl⟩
  have hM9 : M 319 = I 319 := by rw [hM]; exact up2_row (by decide)
  have hM7 : M 318 7 = I 318 7 := by rw [hM, up2_same, if_neg (by decide)]
  rw [← hM]
  refine wp_iload1 (pc' := 6) rfl rfl ?_
  refine wp_sw (tg := 99) rfl rfl ?_
  refine wp_aload0 (pc' := 100) rfl rfl ?_
  refine wp_callV1 (pc' := 103) rfl rfl rfl rfl rfl (by first | exact TK.k1 hT rfl | exact TK.kk hT rfl | exact TK.r hT rfl | assumption) rfl rfl ?_
  refine m_storesOfAll hT (by rw [hM9]; exact hw) hH6 ?_
  rw [hM9]
  refine Cont.v ?_
  refine wp_iret rfl rfl rfl ?_
  first | rw [hM9, hM] | rw [hM7, hM] | rw [hM]
  exact kk
theorem m_count10 {d : Nat} {K : Nat → Nat × Nat} {I : Nat → Nat → Int32} {L : Nat → Nat → Int64} {R : Nat → Nat → Option Nat} {n s : Nat} {Q : Lo → Lm → Prop}  (hT : TK K R n)  (kk : Q (.inl (some (.int (sumN (fun c => I 319 (9 + 6 * c + 2)) 25)))) (K, up2 I 318 0 (nI 0), L, R, n, s)) : Ok (d + 4) 368 [.ref 318, .int (nI 10)] (K, I, L, R, n, s) Q := by
  obtain ⟨-, -, hn⟩ := id hT
  refine Ok.enter (F := F_368) (ls := [.ref 318, .int (nI 10)]) rfl rfl ?_
  refine wp_aload0 (pc' := 1) rfl rfl ?_
  refine wp_iconst (v := nI 0) (pc' := 2) rfl rfl rfl ?_
  refine wp_putI (pc' := 5) rfl rfl (by first | exact TK.k1 hT rfl | exact TK.kk hT rfl | exact TK.r hT rfl | assumption) (by omega) rfl ?_
  obtain ⟨M, hM⟩ : ∃ M, M = up2 I 318 0 (nI 0) := ⟨_, rfl⟩
  have hM9 : M 319 = I 319 := by rw [hM]; exact up2_row (by decide)
  have hM7 : M 318 7 = I 318 7 := by rw [hM, up2_same, if_neg (by decide)]
  rw [← hM]
  refine wp_iload1 (pc' := 6) rfl rfl ?_
  refine wp_sw (tg := 104) rfl rfl ?_
  refine wp_aload0 (pc' := 105) rfl rfl ?_
  refine wp_iconst (v := nI 2) (pc' := 106) rfl rfl rfl ?_
  refine wp_callV2 (pc' := 109) rfl rfl rfl rfl rfl (by first | exact TK.k1 hT rfl | exact TK.kk hT rfl | exact TK.r hT rfl | assumption) rfl rfl ?_
  refine m_sumOfAll hT (by decide) ?_
  rw [hM9]
  refine Cont.v ?_
  refine wp_iret rfl rfl rfl ?_
  first | rw [hM9, hM] | rw [hM7, hM] | rw [hM]
  exact kk
theorem m_count11 {d : Nat} {K : Nat → Nat × Nat} {I : Nat → Nat → Int32} {L : Nat → Nat → Int64} {R : Nat → Nat → Option Nat} {n s : Nat} {Q : Lo → Lm → Prop}  (hT : TK K R n)  (kk : Q (.inl (some (.int (I 319 7)))) (K, up2 I 318 0 (nI 0), L, R, n, s)) : Ok (d + 4) 368 [.ref 318, .int (nI 11)] (K, I, L, R, n, s) Q := by
  obtain ⟨-, -, hn⟩ := id hT
  refine Ok.enter (F := F_368) (ls := [.ref 318, .int (nI 11)]) rfl rfl ?_
  refine wp_aload0 (pc' := 1) rfl rfl ?_
  refine wp_iconst (v := nI 0) (pc' := 2) rfl rfl rfl ?_
  refine wp_putI (pc' := 5) rfl rfl (by first | exact TK.k1 hT rfl | exact TK.kk hT rfl | exact TK.r hT rfl | assumption) (by omega) rfl ?_
  obtain ⟨M, hM⟩ : ∃ M, M = up2 I 318 0 (nI 0) := ⟨_, rfl⟩
  have hM9 : M 319 = I 319 := by rw [hM]; exact up2_row (by decide)
  have hM7 : M 318 7 = I 318 7 := by rw [hM, up2_same, if_neg (by decide)]
  rw [← hM]
  refine wp_iload1 (pc' := 6) rfl rfl ?_
  refine wp_sw (tg := 110) rfl rfl ?_
  refine wp_aload0 (pc' := 111) rfl rfl ?_
  refine wp_getRF (pc' := 114) rfl rfl (by first | exact TK.k1 hT rfl | exact TK.kk hT rfl | exact TK.r hT rfl | assumption) (by first | exact TK.k1 hT rfl | exact TK.kk hT rfl | exact TK.r hT rfl | assumption) rfl ?_
  refine wp_bipush (v := nI 7) (pc' := 116) rfl rfl rfl ?_
  refine wp_iald _ (pc' := 117) rfl (by first | exact TK.k1 hT rfl | exact TK.kk hT rfl | exact TK.r hT rfl | assumption) (by with_reducible rfl) (by omega) (by first | decide | assumption | omega) rfl ?_
  refine wp_iret rfl rfl rfl ?_
  first | rw [hM9, hM] | rw [hM7, hM] | rw [hM]
  exact kk
theorem m_count12 {d : Nat} {K : Nat → Nat × Nat} {I : Nat → Nat → Int32} {L : Nat → Nat → Int64} {R : Nat → Nat → Option Nat} {n s : Nat} {Q : Lo → Lm → Prop}  (hT : TK K R n)  (kk : Q (.inl (some (.int (I 318 7)))) (K, up2 I 318 0 (nI 0), L, R, n, s)) : Ok (d + 4) 368 [.ref 318, .int (nI 12)] (K, I, L, R, n, s) Q := by
  obtain ⟨-, -, hn⟩ := id hT
  refine Ok.enter (F := F_368) (ls := [.ref 318, .int (nI 12)]) rfl rfl ?_
  refine wp_aload0 (pc' := 1) rfl rfl ?_
  refine wp_iconst (v := nI 0) (pc' := 2) rfl rfl rfl ?_
  refine wp_putI (pc' := 5) rfl rfl (by first | exact TK.k1 hT rfl | exact TK.kk hT rfl | exact TK.r hT rfl | assumption) (by omega) rfl ?_
  obtain ⟨M, hM⟩ : ∃ M, M = up2 I 318 0 (nI 0) := ⟨_, rfl⟩
  have hM9 : M 319 = I 319 := by rw [hM]; exact up2_row (by decide)
  have hM7 : M 318 7 = I 318 7 := by rw [hM, up2_same, if_neg (by decide)]
  rw [← hM]
  refine wp_iload1 (pc' := 6) rfl rfl ?_
  refine wp_sw (tg := 118) rfl rfl ?_
  refine wp_aload0 (pc' := 119) rfl rfl ?_
  refine wp_getI (pc' := 122) rfl rfl (by first | exact TK.k1 hT rfl | exact TK.kk hT rfl | exact TK.r hT rfl | assumption) rfl ?_
  refine wp_iret rfl rfl rfl ?_
  first | rw [hM9, hM] | rw [hM7, hM] | rw [hM]
  exact kk
theorem m_count2 {d : Nat} {K : Nat → Nat × Nat} {I : Nat → Nat → Int32} {L : Nat → Nat → Int64} {R : Nat → Nat → Option Nat} {n s : Nat} {Q : Lo → Lm → Prop}  (hT : TK K R n) (kk : Q (.inl (some (.int (if I 319 2 = nI 1 then I 319 483 else -1)))) (K, up2 I 318 0 (nI 0), L, R, n, s)) : Ok (d + 4) 368 [.ref 318, .int (nI 2)] (K, I, L, R, n, s) Q := by
  obtain ⟨-, -, hn⟩ := id hT
  refine Ok.enter (F := F_368) (ls := [.ref 318, .int (nI 2)]) rfl rfl ?_
  refine wp_aload0 (pc' := 1) rfl rfl ?_
  refine wp_iconst (v := nI 0) (pc' := 2) rfl rfl rfl ?_
  refine wp_putI (pc' := 5) rfl rfl (by first | exact TK.k1 hT rfl | exact TK.kk hT rfl | exact TK.r hT rfl | assumption) (by omega) rfl ?_
  obtain ⟨M, hM⟩ : ∃ M, M = up2 I 318 0 (nI 0) := ⟨_, rfl⟩
  have hM9 : M 319 = I 319 := by rw [hM]; exact up2_row (by decide)
  have hM7 : M 318 7 = I 318 7 := by rw [hM, up2_same, if_neg (by decide)]
  rw [← hM]
  refine wp_iload1 (pc' := 6) rfl rfl ?_
  refine wp_sw (tg := 64) rfl rfl ?_
  refine wp_aload0 (pc' := 65) rfl rfl ?_
  refine wp_getRF (pc' := 68) rfl rfl (by first | exact TK.k1 hT rfl | exact TK.kk hT rfl | exact TK.r hT rfl | assumption) (by first | exact TK.k1 hT rfl | exact TK.kk hT rfl | exact TK.r hT rfl | assumption) rfl ?_
  refine wp_iconst (v := nI 2) (pc' := 69) rfl rfl rfl ?_
  refine wp_iald _ (pc' := 70) rfl (by first | exact TK.k1 hT rfl | exact TK.kk hT rfl | exact TK.r hT rfl | assumption) (by with_reducible rfl) (by omega) (by first | decide | assumption | omega) rfl ?_
  rw [hM9]
  refine wp_iconst (v := nI 1) (pc' := 71) rfl rfl rfl ?_
  refine wp_icmpne (pc' := 74) rfl rfl ?_ ?_
  · intro h71
    refine wp_iconst (v := (-1)) (pc' := 86) rfl rfl rfl ?_
    refine wp_iret rfl rfl rfl ?_
    rw [hM]
    first | exact Qv kk (by rw [if_pos h71, up2_row (by decide)]) rfl | exact Qv kk (by rw [if_neg h71]) rfl
  · intro h71
    refine wp_aload0 (pc' := 75) rfl rfl ?_
    refine wp_getRF (pc' := 78) rfl rfl (by first | exact TK.k1 hT rfl | exact TK.kk hT rfl | exact TK.r hT rfl | assumption) (by first | exact TK.k1 hT rfl | exact TK.kk hT rfl | exact TK.r hT rfl | assumption) rfl ?_
    refine wp_sipush (v := nI 483) (pc' := 81) rfl rfl rfl ?_
    skip
    refine wp_iald _ (pc' := 82) rfl (by first | exact TK.k1 hT rfl | exact TK.kk hT rfl | exact TK.r hT rfl | assumption) (by with_reducible rfl) (by omega) (by first | decide | assumption | omega) rfl ?_
    refine wp_goto rfl ?_
    refine wp_iret rfl rfl rfl ?_
    rw [hM]
    first | exact Qv kk (by rw [if_pos h71, up2_row (by decide)]) rfl | exact Qv kk (by rw [if_neg h71]) rfl
theorem m_countX {d : Nat} {K : Nat → Nat × Nat} {I : Nat → Nat → Int32} {L : Nat → Nat → Int64} {R : Nat → Nat → Option Nat} {n s : Nat} {Q : Lo → Lm → Prop} {x : Int32} (hT : TK K R n) (hx : ¬ InR x 13) (kk : Q (.inl (some (.int (-1)))) (K, up2 I 318 0 (nI 0), L, R, n, s)) : Ok (d + 4) 368 [.ref 318, .int x] (K, I, L, R, n, s) Q := by
  obtain ⟨-, -, hn⟩ := id hT
  refine Ok.enter (F := F_368) (ls := [.ref 318, .int x]) rfl rfl ?_
  refine wp_aload0 (pc' := 1) rfl rfl ?_
  refine wp_iconst (v := nI 0) (pc' := 2) rfl rfl rfl ?_
  refine wp_putI (pc' := 5) rfl rfl (by first | exact TK.k1 hT rfl | exact TK.kk hT rfl | exact TK.r hT rfl | assumption) (by omega) rfl ?_
  obtain ⟨M, hM⟩ : ∃ M, M = up2 I 318 0 (nI 0) := ⟨_, rfl⟩
  have hM9 : M 319 = I 319 := by rw [hM]; exact up2_row (by decide)
  have hM7 : M 318 7 = I 318 7 := by rw [hM, up2_same, if_neg (by decide)]
  rw [← hM]
  refine wp_iload1 (pc' := 6) rfl rfl ?_
  refine wp_sw (tg := 123) rfl (sw_def (lo := 2) (fun k hk e => hx ⟨2 + k, by have : k < 11 := hk; omega, e⟩)) ?_
  refine wp_iload1 (pc' := 124) rfl rfl ?_
  refine wp_iconst (v := nI 0) (pc' := 125) rfl rfl rfl ?_
  refine wp_bipush (v := nI 6) (pc' := 127) rfl rfl rfl ?_
  refine wp_callS3 (pc' := 130) rfl rfl rfl rfl rfl rfl ?_
  refine m_in0 (fun q => hx (by obtain ⟨a, ha, e⟩ := (InR_iff (k := 6) (by decide)).mp q; exact ⟨a, by omega, e⟩)) ?_
  refine Cont.v ?_
  refine wp_ifeqT rfl rfl ?_
  refine wp_iconst (v := (-1)) (pc' := 143) rfl rfl rfl ?_
  refine wp_iret rfl rfl rfl ?_
  rw [hM]
  exact kk
