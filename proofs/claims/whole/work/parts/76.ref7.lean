/-! THE REFERENCE: acts -/
def remR (A : Nat) (w v : Nat → Int32) : Nat → Int32 := if A = 12 then cpyO 5313 483 w (cpy 5313 (fun k => v (k + 483)) v) else cpyO (483 * A) 483 w v
def RemJ (A : Nat) (I J : Mem) : Prop := (∀ a, a ≠ 318 → a ≠ 323 → J a = I a) ∧ (∀ j, j ≠ 7 → J 318 j = I 318 j) ∧ J 318 7 = nI (min (A + 1) 12) ∧ J 323 = remR A (I 319) (I 323)
theorem m_remembers {d : Nat} {K : Nat → Nat × Nat} {I : Mem} {L : Nat → Nat → Int64} {R : Nat → Nat → Option Nat} {n s : Nat} {Q : Lo → Lm → Prop} {A : Nat} (hT : TK K R n) (hA : I 318 7 = nI A) (hA12 : A ≤ 12) (kk : ∀ J, RemJ A I J → Q (.inl none) (K, J, L, R, n, s)) : Ok (d + 1) 291 [.ref 318] (K, I, L, R, n, s) Q := by
  by_cases h : A = 12
  · subst h
    refine m_rem12 hT hA (kk _ ⟨fun a _ h2 => upr_ne h2, fun j _ => by rw [upr_ne (by decide)], by rw [upr_ne (by decide)]; exact hA, ?_⟩)
    rw [upr_same]; rfl
  · refine m_rem hT hA (by omega) (kk _ ⟨fun a h1 h2 => (upr_ne h2).trans (up2_ne h1), fun j hj => by rw [upr_ne (by decide), up2_same, if_neg hj], by rw [upr_ne (by decide), up2_hit, Nat.min_eq_left (by omega)], ?_⟩)
    rw [upr_same, up2_ne (by decide), up2_ne (by decide)]
    unfold remR
    rw [if_neg h]
def ActJ (A : Nat) (I J : Mem) (w : Nat → Int32) : Prop := (∀ a, (a < 318 ∨ (320 ≤ a ∧ a < 323) ∨ a = 324 ∨ 337 ≤ a) → J a = I a) ∧ (∀ j, j ≠ 7 → j ≠ 0 → J 318 j = I 318 j) ∧ J 318 0 = nI 0 ∧ J 318 7 = nI (min (A + 1) 12) ∧ J 323 = remR A (I 319) (I 323) ∧ J 319 = w
theorem act_mk {A : Nat} {I J N : Mem} {w : Nat → Int32} (h : RemJ A (up2 I 318 0 (nI 0)) J) (hk : KpS J N) (hw : N 319 = w) : ActJ A I N w := by
  obtain ⟨h1, h2, h3, h4⟩ := h
  refine ⟨fun a ha => ?_, fun j h7 h0 => ?_, ?_, ?_, ?_, hw⟩
  · rw [hk a (by omega), h1 a (by omega) (by omega), up2_ne (by omega)]
  · rw [hk 318 (by omega), h2 j h7, up2_same, if_neg h0]
  · rw [hk 318 (by omega), h2 0 (by decide), up2_hit]
  · rw [hk 318 (by omega)]; exact h3
  · rw [hk 323 (by omega), h4, up2_ne (by decide), up2_ne (by decide)]
abbrev footW (u : Nat → Int32) (c : Nat) : Prop := nI 0 < u (9 + 6 * c + 3) ∧ u (9 + 6 * c + 5) < nI 2 ∧ ¬ u (9 + 6 * c + 4) < (if u (9 + 6 * c + 5) = nI 0 then nI 30 else nI 50)

theorem m_isNow {d : Nat} {K : Nat → Nat × Nat} {I : Nat → Nat → Int32} {L : Nat → Nat → Int64} {R : Nat → Nat → Option Nat} {n s : Nat} {Q : Lo → Lm → Prop} {A q : Nat} {y : Int32} (hT : TK K R n) (hA : I 318 7 = nI A) (hA12 : A ≤ 12) (hq : q < 1332) (kk : ∀ J, RemJ A I J → Q (.inl (some (.int (I 319 q)))) (K, upr J 319 (up1 (I 319) q y), L, R, n, s)) : Ok (d + 2) 297 [.ref 318, .int (nI q), .int y] (K, I, L, R, n, s) Q := by
  obtain ⟨-, -, hn⟩ := id hT
  refine Ok.enter (F := F_297) (ls := [.ref 318, .int (nI q), .int y, lDead]) rfl rfl ?_
  refine wp_aload0 (pc' := 1) rfl rfl ?_
  refine wp_callV1 (pc' := 4) rfl rfl rfl rfl rfl (by first | exact TK.k1 hT rfl | exact TK.kk hT rfl | exact TK.r hT rfl | assumption) rfl rfl ?_
  refine m_remembers hT hA hA12 (fun J hJ => ?_)
  have hJ9 : J 319 = I 319 := hJ.1 319 (by decide) (by decide)
  refine Cont.u ?_
  refine wp_aload0 (pc' := 5) rfl rfl ?_
  refine wp_getRF (pc' := 8) rfl rfl (by first | exact TK.k1 hT rfl | exact TK.kk hT rfl | exact TK.r hT rfl | assumption) (by first | exact TK.k1 hT rfl | exact TK.kk hT rfl | exact TK.r hT rfl | assumption) rfl ?_
  refine wp_iload1 (pc' := 9) rfl rfl ?_
  refine wp_iald _ (pc' := 10) rfl (by first | exact TK.k1 hT rfl | exact TK.kk hT rfl | exact TK.r hT rfl | assumption) (by with_reducible rfl) (by omega) (by first | decide | assumption | omega) rfl ?_
  refine wp_istore3 (pc' := 11) rfl (by first | rfl | assumption) rfl ?_
  refine wp_aload0 (pc' := 12) rfl rfl ?_
  refine wp_getRF (pc' := 15) rfl rfl (by first | exact TK.k1 hT rfl | exact TK.kk hT rfl | exact TK.r hT rfl | assumption) (by first | exact TK.k1 hT rfl | exact TK.kk hT rfl | exact TK.r hT rfl | assumption) rfl ?_
  refine wp_iload1 (pc' := 16) rfl rfl ?_
  refine wp_iload2 (pc' := 17) rfl rfl ?_
  refine wp_iast _ (pc' := 18) rfl (by first | exact TK.k1 hT rfl | exact TK.kk hT rfl | exact TK.r hT rfl | assumption) (by omega) (by with_reducible rfl) (by omega) (by first | decide | assumption | omega) rfl ?_
  refine wp_iload3 (pc' := 19) rfl rfl ?_
  refine wp_iret rfl rfl rfl ?_
  rw [hJ9, up2_as, hJ9]
  exact kk _ hJ
theorem m_canFoot {d : Nat} {K : Nat → Nat × Nat} {I : Nat → Nat → Int32} {L : Nat → Nat → Int64} {R : Nat → Nat → Option Nat} {n s : Nat} {Q : Lo → Lm → Prop} {c : Nat} (hT : TK K R n) (hc : c < 25) (kk : Q (.inl (some (.int (if footW (I 319) c then nI 1 else nI 0)))) (K, I, L, R, n, s)) : Ok (d + 3) 296 [.ref 318, .int (nI c)] (K, I, L, R, n, s) Q := by
  obtain ⟨-, -, hn⟩ := id hT
  refine Ok.enter (F := F_296) (ls := [.ref 318, .int (nI c), lDead]) rfl rfl ?_
  refine wp_aload0 (pc' := 1) rfl rfl ?_
  refine wp_iload1 (pc' := 2) rfl rfl ?_
  refine wp_iconst (v := nI 5) (pc' := 3) rfl rfl rfl ?_
  refine wp_callV3 (pc' := 6) rfl rfl rfl rfl rfl (by first | exact TK.k1 hT rfl | exact TK.kk hT rfl | exact TK.r hT rfl | assumption) rfl rfl ?_
  refine m_of hT hc (by decide) ?_
  refine Cont.v ?_
  refine wp_istore2 (pc' := 7) rfl (by first | rfl | assumption) rfl ?_
  refine wp_aload0 (pc' := 8) rfl rfl ?_
  refine wp_iload1 (pc' := 9) rfl rfl ?_
  refine wp_iconst (v := nI 3) (pc' := 10) rfl rfl rfl ?_
  refine wp_callV3 (pc' := 13) rfl rfl rfl rfl rfl (by first | exact TK.k1 hT rfl | exact TK.kk hT rfl | exact TK.r hT rfl | assumption) rfl rfl ?_
  refine m_of hT hc (by decide) ?_
  refine Cont.v ?_
  refine wp_ifle (pc' := 16) rfl rfl ?_ ?_
  · intro h13
    refine wp_iconst (v := nI 0) (pc' := 46) rfl rfl rfl ?_
    refine wp_iret rfl rfl (by first | rfl | exact nar_if) ?_
    first | exact Qv kk (by rw [if_pos (show footW (I 319) c from And.intro h13 (And.intro h18 (by first | (rw [if_pos h28]; exact h38) | (rw [if_neg h28]; exact h38))))]) rfl | exact Qv kk (by rw [if_neg (show ¬ footW (I 319) c from fun q => h13 q.1)]) rfl | exact Qv kk (by rw [if_neg (show ¬ footW (I 319) c from fun q => h18 q.2.1)]) rfl | exact Qv kk (by rw [if_neg (show ¬ footW (I 319) c from fun q => q.2.2 (by first | (rw [if_pos h28]; exact h38) | (rw [if_neg h28]; exact h38)))]) rfl
  · intro h13
    refine wp_iload2 (pc' := 17) rfl rfl ?_
    refine wp_iconst (v := nI 2) (pc' := 18) rfl rfl rfl ?_
    refine wp_icmpge (pc' := 21) rfl rfl ?_ ?_
    · intro h18
      refine wp_iconst (v := nI 0) (pc' := 46) rfl rfl rfl ?_
      refine wp_iret rfl rfl (by first | rfl | exact nar_if) ?_
      first | exact Qv kk (by rw [if_pos (show footW (I 319) c from And.intro h13 (And.intro h18 (by first | (rw [if_pos h28]; exact h38) | (rw [if_neg h28]; exact h38))))]) rfl | exact Qv kk (by rw [if_neg (show ¬ footW (I 319) c from fun q => h13 q.1)]) rfl | exact Qv kk (by rw [if_neg (show ¬ footW (I 319) c from fun q => h18 q.2.1)]) rfl | exact Qv kk (by rw [if_neg (show ¬ footW (I 319) c from fun q => q.2.2 (by first | (rw [if_pos h28]; exact h38) | (rw [if_neg h28]; exact h38)))]) rfl
    · intro h18
      refine wp_aload0 (pc' := 22) rfl rfl ?_
      refine wp_iload1 (pc' := 23) rfl rfl ?_
      refine wp_iconst (v := nI 4) (pc' := 24) rfl rfl rfl ?_
      refine wp_callV3 (pc' := 27) rfl rfl rfl rfl rfl (by first | exact TK.k1 hT rfl | exact TK.kk hT rfl | exact TK.r hT rfl | assumption) rfl rfl ?_
      refine m_of hT hc (by decide) ?_
      refine Cont.v ?_
      refine wp_iload2 (pc' := 28) rfl rfl ?_
      first | refine wp_ifneB (pc' := 31) rfl rfl ?_ ?_ | refine wp_ifne (pc' := 31) rfl rfl ?_ ?_
      · intro h28
        refine wp_bipush (v := nI 50) (pc' := 38) rfl rfl rfl ?_
        refine wp_icmplt (pc' := 41) rfl rfl ?_ ?_
        · intro h38
          refine wp_iconst (v := nI 0) (pc' := 46) rfl rfl rfl ?_
          refine wp_iret rfl rfl (by first | rfl | exact nar_if) ?_
          first | exact Qv kk (by rw [if_pos (show footW (I 319) c from And.intro h13 (And.intro h18 (by first | (rw [if_pos h28]; exact h38) | (rw [if_neg h28]; exact h38))))]) rfl | exact Qv kk (by rw [if_neg (show ¬ footW (I 319) c from fun q => h13 q.1)]) rfl | exact Qv kk (by rw [if_neg (show ¬ footW (I 319) c from fun q => h18 q.2.1)]) rfl | exact Qv kk (by rw [if_neg (show ¬ footW (I 319) c from fun q => q.2.2 (by first | (rw [if_pos h28]; exact h38) | (rw [if_neg h28]; exact h38)))]) rfl
        · intro h38
          refine wp_iconst (v := nI 1) (pc' := 42) rfl rfl rfl ?_
          refine wp_goto rfl ?_
          refine wp_iret rfl rfl (by first | rfl | exact nar_if) ?_
          first | exact Qv kk (by rw [if_pos (show footW (I 319) c from And.intro h13 (And.intro h18 (by first | (rw [if_pos h28]; exact h38) | (rw [if_neg h28]; exact h38))))]) rfl | exact Qv kk (by rw [if_neg (show ¬ footW (I 319) c from fun q => h13 q.1)]) rfl | exact Qv kk (by rw [if_neg (show ¬ footW (I 319) c from fun q => h18 q.2.1)]) rfl | exact Qv kk (by rw [if_neg (show ¬ footW (I 319) c from fun q => q.2.2 (by first | (rw [if_pos h28]; exact h38) | (rw [if_neg h28]; exact h38)))]) rfl
      · intro h28
        refine wp_bipush (v := nI 30) (pc' := 33) rfl rfl rfl ?_
        refine wp_goto rfl ?_
        refine wp_icmplt (pc' := 41) rfl rfl ?_ ?_
        · intro h38
          refine wp_iconst (v := nI 0) (pc' := 46) rfl rfl rfl ?_
          refine wp_iret rfl rfl (by first | rfl | exact nar_if) ?_
          first | exact Qv kk (by rw [if_pos (show footW (I 319) c from And.intro h13 (And.intro h18 (by first | (rw [if_pos h28]; exact h38) | (rw [if_neg h28]; exact h38))))]) rfl | exact Qv kk (by rw [if_neg (show ¬ footW (I 319) c from fun q => h13 q.1)]) rfl | exact Qv kk (by rw [if_neg (show ¬ footW (I 319) c from fun q => h18 q.2.1)]) rfl | exact Qv kk (by rw [if_neg (show ¬ footW (I 319) c from fun q => q.2.2 (by first | (rw [if_pos h28]; exact h38) | (rw [if_neg h28]; exact h38)))]) rfl
        · intro h38
          refine wp_iconst (v := nI 1) (pc' := 42) rfl rfl rfl ?_
          refine wp_goto rfl ?_
          refine wp_iret rfl rfl (by first | rfl | exact nar_if) ?_
          first | exact Qv kk (by rw [if_pos (show footW (I 319) c from And.intro h13 (And.intro h18 (by first | (rw [if_pos h28]; exact h38) | (rw [if_neg h28]; exact h38))))]) rfl | exact Qv kk (by rw [if_neg (show ¬ footW (I 319) c from fun q => h13 q.1)]) rfl | exact Qv kk (by rw [if_neg (show ¬ footW (I 319) c from fun q => h18 q.2.1)]) rfl | exact Qv kk (by rw [if_neg (show ¬ footW (I 319) c from fun q => q.2.2 (by first | (rw [if_pos h28]; exact h38) | (rw [if_neg h28]; exact h38)))]) rfl
theorem m_foot {d : Nat} {K : Nat → Nat × Nat} {I : Nat → Nat → Int32} {L : Nat → Nat → Int64} {R : Nat → Nat → Option Nat} {n s : Nat} {Q : Lo → Lm → Prop} {A c : Nat} (hT : TK K R n) (hA : I 318 7 = nI A) (hA12 : A ≤ 12) (hc : c < 25) (hf : footW (I 319) c) (kk : ∀ J, ActJ A I J (up1 (I 319) (9 + 6 * c + 5) (I 319 (9 + 6 * c + 5) + nI 1)) → Q (.inl (some (.int (I 319 (9 + 6 * c + 5) + nI 1)))) (K, J, L, R, n, s)) : Ok (d + 5) 295 [.ref 318, .int (nI c)] (K, I, L, R, n, s) Q := by
  obtain ⟨-, -, hn⟩ := id hT
  refine Ok.enter (F := F_295) (ls := [.ref 318, .int (nI c)]) rfl rfl ?_
  refine wp_aload0 (pc' := 1) rfl rfl ?_
  refine wp_iconst (v := nI 0) (pc' := 2) rfl rfl rfl ?_
  refine wp_putI (pc' := 5) rfl rfl (by first | exact TK.k1 hT rfl | exact TK.kk hT rfl | exact TK.r hT rfl | assumption) (by omega) rfl ?_
  obtain ⟨M, hM⟩ : ∃ M, M = up2 I 318 0 (nI 0) := ⟨_, rfl⟩
  have hM9 : M 319 = I 319 := by rw [hM]; exact up2_row (by decide)
  have hM7 : M 318 7 = I 318 7 := by rw [hM, up2_same, if_neg (by decide)]
  rw [← hM]
  refine wp_aload0 (pc' := 6) rfl rfl ?_
  refine wp_iload1 (pc' := 7) rfl rfl ?_
  refine wp_callS1 (pc' := 10) rfl rfl rfl rfl rfl rfl ?_
  refine m_noCell1 hc ?_
  refine Cont.v ?_
  refine wp_iconst (v := nI 1) (pc' := 11) rfl rfl rfl ?_
  refine wp_callV3 (pc' := 14) rfl rfl rfl rfl rfl (by first | exact TK.k1 hT rfl | exact TK.kk hT rfl | exact TK.r hT rfl | assumption) rfl rfl ?_
  refine m_tfN hT ?_
  refine Cont.v ?_
  refine wp_ifneF (pc' := 17) rfl rfl rfl ?_
  refine wp_aload0 (pc' := 18) rfl rfl ?_
  refine wp_aload0 (pc' := 19) rfl rfl ?_
  refine wp_iload1 (pc' := 20) rfl rfl ?_
  refine wp_callV2 (pc' := 23) rfl rfl rfl rfl rfl (by first | exact TK.k1 hT rfl | exact TK.kk hT rfl | exact TK.r hT rfl | assumption) rfl rfl ?_
  refine m_canFoot hT hc ?_
  rw [hM9, if_pos hf]
  refine Cont.v ?_
  refine wp_ifneT rfl (by decide) ?_
  refine wp_iconst (v := nI 0) (pc' := 31) rfl rfl rfl ?_
  refine wp_iconst (v := nI 2) (pc' := 32) rfl rfl rfl ?_
  refine wp_callV3 (pc' := 35) rfl rfl rfl rfl rfl (by first | exact TK.k1 hT rfl | exact TK.kk hT rfl | exact TK.r hT rfl | assumption) rfl rfl ?_
  refine m_tfN hT ?_
  refine Cont.v ?_
  refine wp_ifeqT rfl rfl ?_
  refine wp_aload0 (pc' := 43) rfl rfl ?_
  refine wp_iload1 (pc' := 44) rfl rfl ?_
  refine wp_iconst (v := nI 5) (pc' := 45) rfl rfl rfl ?_
  refine wp_callS2 (pc' := 48) rfl rfl rfl rfl rfl rfl ?_
  refine m_at ?_
  refine Cont.v ?_
  refine wp_aload0 (pc' := 49) rfl rfl ?_
  refine wp_iload1 (pc' := 50) rfl rfl ?_
  refine wp_iconst (v := nI 5) (pc' := 51) rfl rfl rfl ?_
  refine wp_callV3 (pc' := 54) rfl rfl rfl rfl rfl (by first | exact TK.k1 hT rfl | exact TK.kk hT rfl | exact TK.r hT rfl | assumption) rfl rfl ?_
  refine m_of hT hc (by decide) ?_
  rw [hM9]
  refine Cont.v ?_
  refine wp_iconst (v := nI 1) (pc' := 55) rfl rfl rfl ?_
  first | refine wp_iaddN (pc' := 56) rfl (by with_reducible rfl) (by with_reducible rfl) rfl ?_ | refine wp_iadd (pc' := 56) rfl rfl ?_
  refine wp_callV3 (pc' := 59) rfl rfl rfl rfl rfl (by first | exact TK.k1 hT rfl | exact TK.kk hT rfl | exact TK.r hT rfl | assumption) rfl rfl ?_
  refine m_isNow hT (by rw [hM7]; exact hA) hA12 (by omega) (fun J hJ => ?_)
  rw [hM] at hJ
  rw [hM9]
  refine Cont.v ?_
  refine wp_iconst (v := nI 1) (pc' := 60) rfl rfl rfl ?_
  first | refine wp_iaddN (pc' := 61) rfl (by with_reducible rfl) (by with_reducible rfl) rfl ?_ | refine wp_iadd (pc' := 61) rfl rfl ?_
  refine wp_iret rfl rfl rfl ?_
  exact kk _ (act_mk hJ (KpS.rfl'.upr (by omega)) upr_same)
theorem m_footE1 {d : Nat} {K : Nat → Nat × Nat} {I : Nat → Nat → Int32} {L : Nat → Nat → Int64} {R : Nat → Nat → Option Nat} {n s : Nat} {Q : Lo → Lm → Prop} {x : Int32} (hT : TK K R n) (hx : ¬ InR x 25) (kk : Q (.inl (some (.int (nI 0)))) (K, up2 I 318 0 (nI 1), L, R, n, s)) : Ok (d + 5) 295 [.ref 318, .int x] (K, I, L, R, n, s) Q := by
  obtain ⟨-, -, hn⟩ := id hT
  refine Ok.enter (F := F_295) (ls := [.ref 318, .int x]) rfl rfl ?_
  refine wp_aload0 (pc' := 1) rfl rfl ?_
  refine wp_iconst (v := nI 0) (pc' := 2) rfl rfl rfl ?_
  refine wp_putI (pc' := 5) rfl rfl (by first | exact TK.k1 hT rfl | exact TK.kk hT rfl | exact TK.r hT rfl | assumption) (by omega) rfl ?_
  refine wp_aload0 (pc' := 6) rfl rfl ?_
  refine wp_iload1 (pc' := 7) rfl rfl ?_
  refine wp_callS1 (pc' := 10) rfl rfl rfl rfl rfl rfl ?_
  refine m_noCell0 hx ?_
  refine Cont.v ?_
  refine wp_iconst (v := nI 1) (pc' := 11) rfl rfl rfl ?_
  refine wp_callV3 (pc' := 14) rfl rfl rfl rfl rfl (by first | exact TK.k1 hT rfl | exact TK.kk hT rfl | exact TK.r hT rfl | assumption) rfl rfl ?_
  refine m_tfY hT ?_
  refine Cont.v ?_
  refine wp_ifneT rfl (by decide) ?_
  refine wp_iconst (v := nI 0) (pc' := 39) rfl rfl rfl ?_
  refine wp_goto rfl ?_
  refine wp_iret rfl rfl rfl ?_
  rw [up318]
  exact kk
theorem m_footE2 {d : Nat} {K : Nat → Nat × Nat} {I : Nat → Nat → Int32} {L : Nat → Nat → Int64} {R : Nat → Nat → Option Nat} {n s : Nat} {Q : Lo → Lm → Prop} {c : Nat} (hT : TK K R n) (hc : c < 25) (hf : ¬ footW (I 319) c) (kk : Q (.inl (some (.int (nI 0)))) (K, up2 I 318 0 (nI 2), L, R, n, s)) : Ok (d + 5) 295 [.ref 318, .int (nI c)] (K, I, L, R, n, s) Q := by
  obtain ⟨-, -, hn⟩ := id hT
  refine Ok.enter (F := F_295) (ls := [.ref 318, .int (nI c)]) rfl rfl ?_
  refine wp_aload0 (pc' := 1) rfl rfl ?_
  refine wp_iconst (v := nI 0) (pc' := 2) rfl rfl rfl ?_
  refine wp_putI (pc' := 5) rfl rfl (by first | exact TK.k1 hT rfl | exact TK.kk hT rfl | exact TK.r hT rfl | assumption) (by omega) rfl ?_
  refine wp_aload0 (pc' := 6) rfl rfl ?_
  refine wp_iload1 (pc' := 7) rfl rfl ?_
  refine wp_callS1 (pc' := 10) rfl rfl rfl rfl rfl rfl ?_
  refine m_noCell1 hc ?_
  refine Cont.v ?_
  refine wp_iconst (v := nI 1) (pc' := 11) rfl rfl rfl ?_
  refine wp_callV3 (pc' := 14) rfl rfl rfl rfl rfl (by first | exact TK.k1 hT rfl | exact TK.kk hT rfl | exact TK.r hT rfl | assumption) rfl rfl ?_
  refine m_tfN hT ?_
  refine Cont.v ?_
  refine wp_ifneF (pc' := 17) rfl rfl rfl ?_
  refine wp_aload0 (pc' := 18) rfl rfl ?_
  refine wp_aload0 (pc' := 19) rfl rfl ?_
  refine wp_iload1 (pc' := 20) rfl rfl ?_
  refine wp_callV2 (pc' := 23) rfl rfl rfl rfl rfl (by first | exact TK.k1 hT rfl | exact TK.kk hT rfl | exact TK.r hT rfl | assumption) rfl rfl ?_
  refine m_canFoot hT hc ?_
  rw [up2_row (by decide), if_neg hf]
  refine Cont.v ?_
  refine wp_ifneF (pc' := 26) rfl rfl rfl ?_
  refine wp_iconst (v := nI 1) (pc' := 27) rfl rfl rfl ?_
  refine wp_goto rfl ?_
  refine wp_iconst (v := nI 2) (pc' := 32) rfl rfl rfl ?_
  refine wp_callV3 (pc' := 35) rfl rfl rfl rfl rfl (by first | exact TK.k1 hT rfl | exact TK.kk hT rfl | exact TK.r hT rfl | assumption) rfl rfl ?_
  refine m_tfY hT ?_
  refine Cont.v ?_
  refine wp_ifeqF (pc' := 38) rfl (by decide) rfl ?_
  refine wp_iconst (v := nI 0) (pc' := 39) rfl rfl rfl ?_
  refine wp_goto rfl ?_
  refine wp_iret rfl rfl rfl ?_
  rw [up318]
  exact kk
theorem m_dig {d : Nat} {K : Nat → Nat × Nat} {I : Nat → Nat → Int32} {L : Nat → Nat → Int64} {R : Nat → Nat → Option Nat} {n s : Nat} {Q : Lo → Lm → Prop} {A c : Nat} (hT : TK K R n) (hA : I 318 7 = nI A) (hA12 : A ≤ 12) (hc : c < 25) (kk : ∀ J, ActJ A I J (up1 (I 319) (9 + 6 * c + 2) (nI 1)) → Q (.inl (some (.int (if I 319 (9 + 6 * c + 2) = nI 0 then nI 1 else nI 0)))) (K, J, L, R, n, s)) : Ok (d + 5) 300 [.ref 318, .int (nI c)] (K, I, L, R, n, s) Q := by
  obtain ⟨-, -, hn⟩ := id hT
  refine Ok.enter (F := F_300) (ls := [.ref 318, .int (nI c)]) rfl rfl ?_
  refine wp_aload0 (pc' := 1) rfl rfl ?_
  refine wp_iconst (v := nI 0) (pc' := 2) rfl rfl rfl ?_
  refine wp_putI (pc' := 5) rfl rfl (by first | exact TK.k1 hT rfl | exact TK.kk hT rfl | exact TK.r hT rfl | assumption) (by omega) rfl ?_
  obtain ⟨M, hM⟩ : ∃ M, M = up2 I 318 0 (nI 0) := ⟨_, rfl⟩
  have hM9 : M 319 = I 319 := by rw [hM]; exact up2_row (by decide)
  have hM7 : M 318 7 = I 318 7 := by rw [hM, up2_same, if_neg (by decide)]
  rw [← hM]
  refine wp_aload0 (pc' := 6) rfl rfl ?_
  refine wp_iload1 (pc' := 7) rfl rfl ?_
  refine wp_callS1 (pc' := 10) rfl rfl rfl rfl rfl rfl ?_
  refine m_noCell1 hc ?_
  refine Cont.v ?_
  refine wp_iconst (v := nI 1) (pc' := 11) rfl rfl rfl ?_
  refine wp_callV3 (pc' := 14) rfl rfl rfl rfl rfl (by first | exact TK.k1 hT rfl | exact TK.kk hT rfl | exact TK.r hT rfl | assumption) rfl rfl ?_
  refine m_tfN hT ?_
  refine Cont.v ?_
  refine wp_ifneF (pc' := 17) rfl rfl rfl ?_
  refine wp_aload0 (pc' := 18) rfl rfl ?_
  refine wp_iload1 (pc' := 19) rfl rfl ?_
  refine wp_iconst (v := nI 2) (pc' := 20) rfl rfl rfl ?_
  refine wp_callS2 (pc' := 23) rfl rfl rfl rfl rfl rfl ?_
  refine m_at ?_
  refine Cont.v ?_
  refine wp_iconst (v := nI 1) (pc' := 24) rfl rfl rfl ?_
  refine wp_callV3 (pc' := 27) rfl rfl rfl rfl rfl (by first | exact TK.k1 hT rfl | exact TK.kk hT rfl | exact TK.r hT rfl | assumption) rfl rfl ?_
  refine m_isNow hT (by rw [hM7]; exact hA) hA12 (by omega) (fun J hJ => ?_)
  rw [hM] at hJ
  rw [hM9]
  refine Cont.v ?_
  first | refine wp_ifneB (pc' := 30) rfl rfl ?_ ?_ | refine wp_ifne (pc' := 30) rfl rfl ?_ ?_
  · intro h27
    refine wp_iconst (v := nI 0) (pc' := 35) rfl rfl rfl ?_
    refine wp_iret rfl rfl (by first | rfl | exact nar_if) ?_
    first | exact Qv (kk _ (act_mk hJ (KpS.rfl'.upr (by omega)) upr_same)) (by rw [if_pos h27]) rfl | exact Qv (kk _ (act_mk hJ (KpS.rfl'.upr (by omega)) upr_same)) (by rw [if_neg h27]) rfl
  · intro h27
    refine wp_iconst (v := nI 1) (pc' := 31) rfl rfl rfl ?_
    refine wp_goto rfl ?_
    refine wp_iret rfl rfl (by first | rfl | exact nar_if) ?_
    first | exact Qv (kk _ (act_mk hJ (KpS.rfl'.upr (by omega)) upr_same)) (by rw [if_pos h27]) rfl | exact Qv (kk _ (act_mk hJ (KpS.rfl'.upr (by omega)) upr_same)) (by rw [if_neg h27]) rfl
theorem m_digE {d : Nat} {K : Nat → Nat × Nat} {I : Nat → Nat → Int32} {L : Nat → Nat → Int64} {R : Nat → Nat → Option Nat} {n s : Nat} {Q : Lo → Lm → Prop} {x : Int32} (hT : TK K R n) (hx : ¬ InR x 25) (kk : Q (.inl (some (.int (nI 0)))) (K, up2 I 318 0 (nI 1), L, R, n, s)) : Ok (d + 5) 300 [.ref 318, .int x] (K, I, L, R, n, s) Q := by
  obtain ⟨-, -, hn⟩ := id hT
  refine Ok.enter (F := F_300) (ls := [.ref 318, .int x]) rfl rfl ?_
  refine wp_aload0 (pc' := 1) rfl rfl ?_
  refine wp_iconst (v := nI 0) (pc' := 2) rfl rfl rfl ?_
  refine wp_putI (pc' := 5) rfl rfl (by first | exact TK.k1 hT rfl | exact TK.kk hT rfl | exact TK.r hT rfl | assumption) (by omega) rfl ?_
  refine wp_aload0 (pc' := 6) rfl rfl ?_
  refine wp_iload1 (pc' := 7) rfl rfl ?_
  refine wp_callS1 (pc' := 10) rfl rfl rfl rfl rfl rfl ?_
  refine m_noCell0 hx ?_
  refine Cont.v ?_
  refine wp_iconst (v := nI 1) (pc' := 11) rfl rfl rfl ?_
  refine wp_callV3 (pc' := 14) rfl rfl rfl rfl rfl (by first | exact TK.k1 hT rfl | exact TK.kk hT rfl | exact TK.r hT rfl | assumption) rfl rfl ?_
  refine m_tfY hT ?_
  refine Cont.v ?_
  refine wp_ifneT rfl (by decide) ?_
  refine wp_iconst (v := nI 0) (pc' := 35) rfl rfl rfl ?_
  refine wp_iret rfl rfl (by first | rfl | exact nar_if) ?_
  rw [up318]
  exact kk
theorem m_block {d : Nat} {K : Nat → Nat × Nat} {I : Nat → Nat → Int32} {L : Nat → Nat → Int64} {R : Nat → Nat → Option Nat} {n s : Nat} {Q : Lo → Lm → Prop} {A c : Nat} (hT : TK K R n) (hA : I 318 7 = nI A) (hA12 : A ≤ 12) (hc : c < 25) (kk : ∀ J, ActJ A I J (up1 (I 319) (9 + 6 * c + 2) (nI 0)) → Q (.inl (some (.int (if I 319 (9 + 6 * c + 2) = nI 1 then nI 1 else nI 0)))) (K, J, L, R, n, s)) : Ok (d + 5) 301 [.ref 318, .int (nI c)] (K, I, L, R, n, s) Q := by
  obtain ⟨-, -, hn⟩ := id hT
  refine Ok.enter (F := F_301) (ls := [.ref 318, .int (nI c)]) rfl rfl ?_
  refine wp_aload0 (pc' := 1) rfl rfl ?_
  refine wp_iconst (v := nI 0) (pc' := 2) rfl rfl rfl ?_
  refine wp_putI (pc' := 5) rfl rfl (by first | exact TK.k1 hT rfl | exact TK.kk hT rfl | exact TK.r hT rfl | assumption) (by omega) rfl ?_
  obtain ⟨M, hM⟩ : ∃ M, M = up2 I 318 0 (nI 0) := ⟨_, rfl⟩
  have hM9 : M 319 = I 319 := by rw [hM]; exact up2_row (by decide)
  have hM7 : M 318 7 = I 318 7 := by rw [hM, up2_same, if_neg (by decide)]
  rw [← hM]
  refine wp_aload0 (pc' := 6) rfl rfl ?_
  refine wp_iload1 (pc' := 7) rfl rfl ?_
  refine wp_callS1 (pc' := 10) rfl rfl rfl rfl rfl rfl ?_
  refine m_noCell1 hc ?_
  refine Cont.v ?_
  refine wp_iconst (v := nI 1) (pc' := 11) rfl rfl rfl ?_
  refine wp_callV3 (pc' := 14) rfl rfl rfl rfl rfl (by first | exact TK.k1 hT rfl | exact TK.kk hT rfl | exact TK.r hT rfl | assumption) rfl rfl ?_
  refine m_tfN hT ?_
  refine Cont.v ?_
  refine wp_ifneF (pc' := 17) rfl rfl rfl ?_
  refine wp_aload0 (pc' := 18) rfl rfl ?_
  refine wp_iload1 (pc' := 19) rfl rfl ?_
  refine wp_iconst (v := nI 2) (pc' := 20) rfl rfl rfl ?_
  refine wp_callS2 (pc' := 23) rfl rfl rfl rfl rfl rfl ?_
  refine m_at ?_
  refine Cont.v ?_
  refine wp_iconst (v := nI 0) (pc' := 24) rfl rfl rfl ?_
  refine wp_callV3 (pc' := 27) rfl rfl rfl rfl rfl (by first | exact TK.k1 hT rfl | exact TK.kk hT rfl | exact TK.r hT rfl | assumption) rfl rfl ?_
  refine m_isNow hT (by rw [hM7]; exact hA) hA12 (by omega) (fun J hJ => ?_)
  rw [hM] at hJ
  rw [hM9]
  refine Cont.v ?_
  refine wp_iconst (v := nI 1) (pc' := 28) rfl rfl rfl ?_
  refine wp_icmpne (pc' := 31) rfl rfl ?_ ?_
  · intro h28
    refine wp_iconst (v := nI 0) (pc' := 36) rfl rfl rfl ?_
    refine wp_iret rfl rfl (by first | rfl | exact nar_if) ?_
    first | exact Qv (kk _ (act_mk hJ (KpS.rfl'.upr (by omega)) upr_same)) (by rw [if_pos h28]) rfl | exact Qv (kk _ (act_mk hJ (KpS.rfl'.upr (by omega)) upr_same)) (by rw [if_neg h28]) rfl
  · intro h28
    refine wp_iconst (v := nI 1) (pc' := 32) rfl rfl rfl ?_
    refine wp_goto rfl ?_
    refine wp_iret rfl rfl (by first | rfl | exact nar_if) ?_
    first | exact Qv (kk _ (act_mk hJ (KpS.rfl'.upr (by omega)) upr_same)) (by rw [if_pos h28]) rfl | exact Qv (kk _ (act_mk hJ (KpS.rfl'.upr (by omega)) upr_same)) (by rw [if_neg h28]) rfl
theorem m_blockE {d : Nat} {K : Nat → Nat × Nat} {I : Nat → Nat → Int32} {L : Nat → Nat → Int64} {R : Nat → Nat → Option Nat} {n s : Nat} {Q : Lo → Lm → Prop} {x : Int32} (hT : TK K R n) (hx : ¬ InR x 25) (kk : Q (.inl (some (.int (nI 0)))) (K, up2 I 318 0 (nI 1), L, R, n, s)) : Ok (d + 5) 301 [.ref 318, .int x] (K, I, L, R, n, s) Q := by
  obtain ⟨-, -, hn⟩ := id hT
  refine Ok.enter (F := F_301) (ls := [.ref 318, .int x]) rfl rfl ?_
  refine wp_aload0 (pc' := 1) rfl rfl ?_
  refine wp_iconst (v := nI 0) (pc' := 2) rfl rfl rfl ?_
  refine wp_putI (pc' := 5) rfl rfl (by first | exact TK.k1 hT rfl | exact TK.kk hT rfl | exact TK.r hT rfl | assumption) (by omega) rfl ?_
  refine wp_aload0 (pc' := 6) rfl rfl ?_
  refine wp_iload1 (pc' := 7) rfl rfl ?_
  refine wp_callS1 (pc' := 10) rfl rfl rfl rfl rfl rfl ?_
  refine m_noCell0 hx ?_
  refine Cont.v ?_
  refine wp_iconst (v := nI 1) (pc' := 11) rfl rfl rfl ?_
  refine wp_callV3 (pc' := 14) rfl rfl rfl rfl rfl (by first | exact TK.k1 hT rfl | exact TK.kk hT rfl | exact TK.r hT rfl | assumption) rfl rfl ?_
  refine m_tfY hT ?_
  refine Cont.v ?_
  refine wp_ifneT rfl (by decide) ?_
  refine wp_iconst (v := nI 0) (pc' := 36) rfl rfl rfl ?_
  refine wp_iret rfl rfl (by first | rfl | exact nar_if) ?_
  rw [up318]
  exact kk
