/-! THE REFERENCE: a law's lines, a cell's gain -/
def facC (w : Nat → Int32) (c : Nat) (k x : Int32) : Int32 :=
  if k = nI 0 then nI c else if k = nI 1 then nI (c % 5) else if k = nI 2 then nI (c / 5) else if k = nI 3 then w (9 + 6 * c + 0) else if k = nI 4 then w (9 + 6 * c + 1)
  else if k = nI 5 then w (9 + 6 * c + 3) else if k = nI 6 then w 3 else if k = nI 7 then jshr (alW w) (nI c) &&& nI 1 else if k = nI 8 then w 5 else if k = nI 9 then (if nI 0 < w (9 + 6 * c + 3) then nI 1 else nI 0) else x
def rholP (k a b : Int32) : Int32 := if k = nI 12 then (if a < b then nI 1 else nI 0) else if k = nI 13 then (if b < a then nI 1 else nI 0) else if k = nI 15 then (if a + b = nI 2 then nI 1 else nI 0) else if nI 0 < a + b then nI 1 else nI 0
def rjoin (k a b : Int32) : Int32 := if k = nI 11 then a + b else rholP k a b
def rstep (k y : Int32) (p : Nat × (Nat → Int32)) : Nat × (Nat → Int32) :=
  if nI 10 < k then (if k = nI 14 then (p.1, up1 p.2 (p.1 - 1) (nI 1 - p.2 (p.1 - 1))) else (p.1 - 1, up1 p.2 (p.1 - 1 - 1) (rjoin k (p.2 (p.1 - 1 - 1)) (p.2 (p.1 - 1))))) else (p.1 + 1, up1 p.2 p.1 y)
def rrun (w : Nat → Int32) (c : Nat) (v : Nat → Int32) (bg k : Nat) : Nat × (Nat → Int32) := forN (fun j p => rstep (w (532 + 2 * (bg + j))) (facC w c (w (532 + 2 * (bg + j))) (w (532 + 2 * (bg + j) + 1))) p) (0, v) k
/-- how many values lie before code j of a line -/
def rdep (w : Nat → Int32) (bg : Nat) : Nat → Nat
  | 0 => 0
  | j + 1 => if nI 10 < w (532 + 2 * (bg + j)) then (if w (532 + 2 * (bg + j)) = nI 14 then rdep w bg j else rdep w bg j - 1) else rdep w bg j + 1
theorem rrun_dep {w : Nat → Int32} {c : Nat} {v : Nat → Int32} {bg : Nat} : ∀ k, (rrun w c v bg k).1 = rdep w bg k
  | 0 => rfl
  | k + 1 => by
    show (rstep _ _ (rrun w c v bg k)).1 = _
    unfold rstep rdep
    by_cases h1 : nI 10 < w (532 + 2 * (bg + k))
    · rw [if_pos h1, if_pos h1]
      by_cases h2 : w (532 + 2 * (bg + k)) = nI 14
      · rw [if_pos h2, if_pos h2]; exact rrun_dep k
      · rw [if_neg h2, if_neg h2]; show (rrun w c v bg k).1 - 1 = _; rw [rrun_dep k]
    · rw [if_neg h1, if_neg h1]; show (rrun w c v bg k).1 + 1 = _; rw [rrun_dep k]
theorem rdep_le {w : Nat → Int32} {bg : Nat} : ∀ k, rdep w bg k ≤ k
  | 0 => Nat.le_refl _
  | k + 1 => by
    have := rdep_le (w := w) (bg := bg) k
    unfold rdep
    by_cases h1 : nI 10 < w (532 + 2 * (bg + k))
    · rw [if_pos h1]
      by_cases h2 : w (532 + 2 * (bg + k)) = nI 14
      · rw [if_pos h2]; omega
      · rw [if_neg h2]; omega
    · rw [if_neg h1]; omega
/-- a line's codes find what they take -/
def LnOk (w : Nat → Int32) (bg k : Nat) : Prop := ∀ j, j < k → nI 10 < w (532 + 2 * (bg + j)) → (w (532 + 2 * (bg + j)) = nI 14 → 1 ≤ rdep w bg j) ∧ (¬ w (532 + 2 * (bg + j)) = nI 14 → 2 ≤ rdep w bg j)
abbrev rhldP (w : Nat → Int32) (c : Nat) (v : Nat → Int32) (bg k : Nat) : Prop := nI (rrun w c v bg k).1 = nI 0 ∨ (rrun w c v bg k).2 0 = nI 1

theorem m_factOf {d : Nat} {K : Nat → Nat × Nat} {I : Nat → Nat → Int32} {L : Nat → Nat → Int64} {R : Nat → Nat → Option Nat} {n s : Nat} {Q : Lo → Lm → Prop} {c : Nat} {xk xv : Int32} (hT : TK K R n) (hc : c < 25) (kk : Q (.inl (some (.int (facC (I 319) c xk xv)))) (K, I, L, R, n, s)) : Ok (d + 5) 269 [.ref 318, .int xk, .int xv, .int (nI c)] (K, I, L, R, n, s) Q := by
  obtain ⟨-, -, hn⟩ := id hT
  refine Ok.enter (F := F_269) (ls := [.ref 318, .int xk, .int xv, .int (nI c)]) rfl rfl ?_
  refine wp_iload1 (pc' := 1) rfl rfl ?_
  by_cases hs0 : xk = nI 0
  · refine wp_sw (tg := 56) rfl (by rw [hs0]; rfl) ?_
    refine wp_iload3 (pc' := 57) rfl rfl ?_
    refine wp_iret rfl rfl rfl ?_
    exact Qv kk (by first | rfl | (simp +decide only [facC, *, ↓reduceIte, and_self, and_true, true_and, and_false, false_and, not_true_eq_false, not_false_eq_true]; done) | (simp_all [facC]; done)) rfl
  by_cases hs1 : xk = nI 1
  · refine wp_sw (tg := 58) rfl (by rw [hs1]; rfl) ?_
    refine wp_iload3 (pc' := 59) rfl rfl ?_
    refine wp_iconst (v := nI 5) (pc' := 60) rfl rfl rfl ?_
    first | refine wp_iremN (pc' := 61) rfl (by with_reducible rfl) (by with_reducible rfl) (by omega) (by omega) (by omega) rfl ?_ | refine wp_irem (pc' := 61) rfl (by decide) rfl ?_
    refine wp_iret rfl rfl rfl ?_
    exact Qv kk (by first | rfl | (simp +decide only [facC, *, ↓reduceIte, and_self, and_true, true_and, and_false, false_and, not_true_eq_false, not_false_eq_true]; done) | (simp_all [facC]; done)) rfl
  by_cases hs2 : xk = nI 2
  · refine wp_sw (tg := 62) rfl (by rw [hs2]; rfl) ?_
    refine wp_iload3 (pc' := 63) rfl rfl ?_
    refine wp_iconst (v := nI 5) (pc' := 64) rfl rfl rfl ?_
    first | refine wp_idivN (pc' := 65) rfl (by with_reducible rfl) (by with_reducible rfl) (by omega) (by omega) (by omega) rfl ?_ | refine wp_idiv (pc' := 65) rfl (by decide) rfl ?_
    refine wp_iret rfl rfl rfl ?_
    exact Qv kk (by first | rfl | (simp +decide only [facC, *, ↓reduceIte, and_self, and_true, true_and, and_false, false_and, not_true_eq_false, not_false_eq_true]; done) | (simp_all [facC]; done)) rfl
  by_cases hs3 : xk = nI 3
  · refine wp_sw (tg := 66) rfl (by rw [hs3]; rfl) ?_
    refine wp_aload0 (pc' := 67) rfl rfl ?_
    refine wp_iload3 (pc' := 68) rfl rfl ?_
    refine wp_iconst (v := nI 0) (pc' := 69) rfl rfl rfl ?_
    refine wp_callV3 (pc' := 72) rfl rfl rfl rfl rfl (by first | exact TK.k1 hT rfl | exact TK.kk hT rfl | exact TK.r hT rfl | assumption) rfl rfl ?_
    refine m_of hT hc (by decide) ?_
    refine Cont.v ?_
    refine wp_iret rfl rfl rfl ?_
    exact Qv kk (by first | rfl | (simp +decide only [facC, *, ↓reduceIte, and_self, and_true, true_and, and_false, false_and, not_true_eq_false, not_false_eq_true]; done) | (simp_all [facC]; done)) rfl
  by_cases hs4 : xk = nI 4
  · refine wp_sw (tg := 73) rfl (by rw [hs4]; rfl) ?_
    refine wp_aload0 (pc' := 74) rfl rfl ?_
    refine wp_iload3 (pc' := 75) rfl rfl ?_
    refine wp_iconst (v := nI 1) (pc' := 76) rfl rfl rfl ?_
    refine wp_callV3 (pc' := 79) rfl rfl rfl rfl rfl (by first | exact TK.k1 hT rfl | exact TK.kk hT rfl | exact TK.r hT rfl | assumption) rfl rfl ?_
    refine m_of hT hc (by decide) ?_
    refine Cont.v ?_
    refine wp_iret rfl rfl rfl ?_
    exact Qv kk (by first | rfl | (simp +decide only [facC, *, ↓reduceIte, and_self, and_true, true_and, and_false, false_and, not_true_eq_false, not_false_eq_true]; done) | (simp_all [facC]; done)) rfl
  by_cases hs5 : xk = nI 5
  · refine wp_sw (tg := 80) rfl (by rw [hs5]; rfl) ?_
    refine wp_aload0 (pc' := 81) rfl rfl ?_
    refine wp_iload3 (pc' := 82) rfl rfl ?_
    refine wp_iconst (v := nI 3) (pc' := 83) rfl rfl rfl ?_
    refine wp_callV3 (pc' := 86) rfl rfl rfl rfl rfl (by first | exact TK.k1 hT rfl | exact TK.kk hT rfl | exact TK.r hT rfl | assumption) rfl rfl ?_
    refine m_of hT hc (by decide) ?_
    refine Cont.v ?_
    refine wp_iret rfl rfl rfl ?_
    exact Qv kk (by first | rfl | (simp +decide only [facC, *, ↓reduceIte, and_self, and_true, true_and, and_false, false_and, not_true_eq_false, not_false_eq_true]; done) | (simp_all [facC]; done)) rfl
  by_cases hs6 : xk = nI 6
  · refine wp_sw (tg := 87) rfl (by rw [hs6]; rfl) ?_
    refine wp_aload0 (pc' := 88) rfl rfl ?_
    refine wp_getRF (pc' := 91) rfl rfl (by first | exact TK.k1 hT rfl | exact TK.kk hT rfl | exact TK.r hT rfl | assumption) (by first | exact TK.k1 hT rfl | exact TK.kk hT rfl | exact TK.r hT rfl | assumption) rfl ?_
    refine wp_iconst (v := nI 3) (pc' := 92) rfl rfl rfl ?_
    refine wp_iald _ (pc' := 93) rfl (by first | exact TK.k1 hT rfl | exact TK.kk hT rfl | exact TK.r hT rfl | assumption) (by with_reducible rfl) (by omega) (by first | decide | assumption | omega) rfl ?_
    refine wp_iret rfl rfl rfl ?_
    exact Qv kk (by first | rfl | (simp +decide only [facC, *, ↓reduceIte, and_self, and_true, true_and, and_false, false_and, not_true_eq_false, not_false_eq_true]; done) | (simp_all [facC]; done)) rfl
  by_cases hs7 : xk = nI 7
  · refine wp_sw (tg := 94) rfl (by rw [hs7]; rfl) ?_
    refine wp_aload0 (pc' := 95) rfl rfl ?_
    refine wp_callV1 (pc' := 98) rfl rfl rfl rfl rfl (by first | exact TK.k1 hT rfl | exact TK.kk hT rfl | exact TK.r hT rfl | assumption) rfl rfl ?_
    refine m_allDrained hT ?_
    refine Cont.v ?_
    refine wp_iload3 (pc' := 99) rfl rfl ?_
    refine wp_ishr (pc' := 100) rfl rfl ?_
    refine wp_iconst (v := nI 1) (pc' := 101) rfl rfl rfl ?_
    refine wp_iand (pc' := 102) rfl rfl ?_
    refine wp_iret rfl rfl rfl ?_
    exact Qv kk (by first | rfl | (simp +decide only [facC, *, ↓reduceIte, and_self, and_true, true_and, and_false, false_and, not_true_eq_false, not_false_eq_true]; done) | (simp_all [facC]; done)) rfl
  by_cases hs8 : xk = nI 8
  · refine wp_sw (tg := 103) rfl (by rw [hs8]; rfl) ?_
    refine wp_aload0 (pc' := 104) rfl rfl ?_
    refine wp_getRF (pc' := 107) rfl rfl (by first | exact TK.k1 hT rfl | exact TK.kk hT rfl | exact TK.r hT rfl | assumption) (by first | exact TK.k1 hT rfl | exact TK.kk hT rfl | exact TK.r hT rfl | assumption) rfl ?_
    refine wp_iconst (v := nI 5) (pc' := 108) rfl rfl rfl ?_
    refine wp_iald _ (pc' := 109) rfl (by first | exact TK.k1 hT rfl | exact TK.kk hT rfl | exact TK.r hT rfl | assumption) (by with_reducible rfl) (by omega) (by first | decide | assumption | omega) rfl ?_
    refine wp_iret rfl rfl rfl ?_
    exact Qv kk (by first | rfl | (simp +decide only [facC, *, ↓reduceIte, and_self, and_true, true_and, and_false, false_and, not_true_eq_false, not_false_eq_true]; done) | (simp_all [facC]; done)) rfl
  by_cases hs9 : xk = nI 9
  · refine wp_sw (tg := 110) rfl (by rw [hs9]; rfl) ?_
    refine wp_aload0 (pc' := 111) rfl rfl ?_
    refine wp_iload3 (pc' := 112) rfl rfl ?_
    refine wp_iconst (v := nI 3) (pc' := 113) rfl rfl rfl ?_
    refine wp_callV3 (pc' := 116) rfl rfl rfl rfl rfl (by first | exact TK.k1 hT rfl | exact TK.kk hT rfl | exact TK.r hT rfl | assumption) rfl rfl ?_
    refine m_of hT hc (by decide) ?_
    refine Cont.v ?_
    refine wp_ifle (pc' := 119) rfl rfl ?_ ?_
    · intro h116
      refine wp_iconst (v := nI 0) (pc' := 124) rfl rfl rfl ?_
      refine wp_iret rfl rfl rfl ?_
      exact Qv kk (by first | rfl | (simp +decide only [facC, *, ↓reduceIte, and_self, and_true, true_and, and_false, false_and, not_true_eq_false, not_false_eq_true]; done) | (simp_all [facC]; done)) rfl
    · intro h116
      refine wp_iconst (v := nI 1) (pc' := 120) rfl rfl rfl ?_
      refine wp_goto rfl ?_
      refine wp_iret rfl rfl rfl ?_
      exact Qv kk (by first | rfl | (simp +decide only [facC, *, ↓reduceIte, and_self, and_true, true_and, and_false, false_and, not_true_eq_false, not_false_eq_true]; done) | (simp_all [facC]; done)) rfl
  refine wp_sw (tg := 125) rfl (sw_def (fun k hk => match k, hk with | 0, _ => hs0 | 1, _ => hs1 | 2, _ => hs2 | 3, _ => hs3 | 4, _ => hs4 | 5, _ => hs5 | 6, _ => hs6 | 7, _ => hs7 | 8, _ => hs8 | 9, _ => hs9 | k + 10, h => absurd h (show ¬ k + 10 < 10 by omega))) ?_
  refine wp_iload2 (pc' := 126) rfl rfl ?_
  refine wp_iret rfl rfl rfl ?_
  exact Qv kk (by first | rfl | (simp +decide only [facC, *, ↓reduceIte, and_self, and_true, true_and, and_false, false_and, not_true_eq_false, not_false_eq_true]; done) | (simp_all [facC]; done)) rfl
theorem m_holdsLine {d : Nat} {K : Nat → Nat × Nat} {I : Nat → Nat → Int32} {L : Nat → Nat → Int64} {R : Nat → Nat → Option Nat} {n s : Nat} {Q : Lo → Lm → Prop} {l c b0 b1 : Nat} (hT : TK K R n) (hl : l < 12) (hc : c < 25) (hb0 : I 319 (484 + 4 * l + 2) = nI b0) (hb1 : I 319 (484 + 4 * l + 3) = nI b1) (h01 : b0 ≤ b1) (h14 : b1 ≤ 400) (hw1 : LnOk (I 319) b0 (b1 - b0)) (kk : Q (.inl (some (.int (if rhldP (I 319) c (I 326) b0 (b1 - b0) then nI 1 else nI 0)))) (K, upr I 326 (rrun (I 319) c (I 326) b0 (b1 - b0)).2, L, R, n, s)) : Ok (d + 6) 268 [.ref 318, .int (nI l), .int (nI c)] (K, I, L, R, n, s) Q := by
  obtain ⟨-, -, hn⟩ := id hT
  refine Ok.enter (F := F_268) (ls := [.ref 318, .int (nI l), .int (nI c), lDead, lDead, lDead, lDead, lDead, lDead, lDead]) rfl rfl ?_
  refine wp_iconst (v := nI 0) (pc' := 1) rfl rfl rfl ?_
  refine wp_istore3 (pc' := 2) rfl (by first | rfl | assumption) rfl ?_
  refine wp_sipush (v := nI 484) (pc' := 5) rfl rfl rfl ?_
  refine wp_iconst (v := nI 4) (pc' := 6) rfl rfl rfl ?_
  refine wp_iload1 (pc' := 7) rfl rfl ?_
  first | refine wp_imulN (pc' := 8) rfl (by with_reducible rfl) (by with_reducible rfl) rfl ?_ | refine wp_imul (pc' := 8) rfl rfl ?_
  first | refine wp_iaddN (pc' := 9) rfl (by with_reducible rfl) (by with_reducible rfl) rfl ?_ | refine wp_iadd (pc' := 9) rfl rfl ?_
  refine wp_istore4 (pc' := 11) rfl (by first | rfl | assumption) rfl ?_
  refine wp_aload0 (pc' := 12) rfl rfl ?_
  refine wp_getRF (pc' := 15) rfl rfl (by first | exact TK.k1 hT rfl | exact TK.kk hT rfl | exact TK.r hT rfl | assumption) (by first | exact TK.k1 hT rfl | exact TK.kk hT rfl | exact TK.r hT rfl | assumption) rfl ?_
  refine wp_iload4 (pc' := 17) rfl rfl ?_
  refine wp_iconst (v := nI 2) (pc' := 18) rfl rfl rfl ?_
  first | refine wp_iaddN (pc' := 19) rfl (by with_reducible rfl) (by with_reducible rfl) rfl ?_ | refine wp_iadd (pc' := 19) rfl rfl ?_
  refine wp_iald _ (pc' := 20) rfl (by first | exact TK.k1 hT rfl | exact TK.kk hT rfl | exact TK.r hT rfl | assumption) (by with_reducible rfl) (by omega) (by first | decide | assumption | omega) rfl ?_
  rw [hb0]
  refine wp_istore5 (pc' := 22) rfl (by first | rfl | assumption) rfl ?_
  have lp22 : ∀ r (i : Nat) (v6 : Value) (v7 : Value) (v8 : Value) (v9 : Value), i + r = (b1 - b0) → isL v6 = false → isL v7 = false → isL v8 = false → isL v9 = false → WP (d + 5) F_268 22 [.ref 318, .int (nI l), .int (nI c), .int (nI (rrun (I 319) c (I 326) b0 i).1), .int (nI (484 + 4 * l)), .int (nI (b0 + i)), v6, v7, v8, v9] [] (K, upr I 326 (rrun (I 319) c (I 326) b0 i).2, L, R, n, s) Q := by
    intro r; induction r with
    | zero =>
      intro i v6 v7 v8 v9 hi hv0 hv1 hv2 hv3
      have hi2 : i = (b1 - b0) := by omega
      subst hi2
      refine wp_iload5 (pc' := 24) rfl rfl ?_
      refine wp_aload0 (pc' := 25) rfl rfl ?_
      refine wp_getRF (pc' := 28) rfl rfl (by first | exact TK.k1 hT rfl | exact TK.kk hT rfl | exact TK.r hT rfl | assumption) (by first | exact TK.k1 hT rfl | exact TK.kk hT rfl | exact TK.r hT rfl | assumption) rfl ?_
      refine wp_iload4 (pc' := 30) rfl rfl ?_
      refine wp_iconst (v := nI 3) (pc' := 31) rfl rfl rfl ?_
      first | refine wp_iaddN (pc' := 32) rfl (by with_reducible rfl) (by with_reducible rfl) rfl ?_ | refine wp_iadd (pc' := 32) rfl rfl ?_
      refine wp_iald _ (pc' := 33) rfl (by first | exact TK.k1 hT rfl | exact TK.kk hT rfl | exact TK.r hT rfl | assumption) (by with_reducible rfl) (by omega) (by first | decide | assumption | omega) rfl ?_
      refine wp_icmpgeT rfl (by rw [upr_ne (show (319 : Nat) ≠ 326 by decide), hb1]; exact nI_nlt (by omega) (by omega)) ?_
      refine wp_iload3 (pc' := 264) rfl rfl ?_
      first | refine wp_ifeqB (pc' := 267) rfl rfl ?_ ?_ | refine wp_ifeq (pc' := 267) rfl rfl ?_ ?_
      · intro h264
        refine wp_iconst (v := nI 1) (pc' := 278) rfl rfl rfl ?_
        refine wp_goto rfl ?_
        refine wp_iret rfl rfl (by first | rfl | exact nar_if) ?_
        first | exact Qv kk (by rw [if_pos (Or.inl h264)]) rfl | exact Qv kk (by rw [if_pos (Or.inr (by rw [← h274, upr_same]))]) rfl | exact Qv kk (by rw [if_neg (fun q => q.elim h264 (fun e => h274 (by rw [upr_same]; exact e)))]) rfl
      · intro h264
        refine wp_aload0 (pc' := 268) rfl rfl ?_
        refine wp_getRF (pc' := 271) rfl rfl (by first | exact TK.k1 hT rfl | exact TK.kk hT rfl | exact TK.r hT rfl | assumption) (by first | exact TK.k1 hT rfl | exact TK.kk hT rfl | exact TK.r hT rfl | assumption) rfl ?_
        refine wp_iconst (v := nI 0) (pc' := 272) rfl rfl rfl ?_
        refine wp_iald _ (pc' := 273) rfl (by first | exact TK.k1 hT rfl | exact TK.kk hT rfl | exact TK.r hT rfl | assumption) (by with_reducible rfl) (by omega) (by first | decide | assumption | omega) rfl ?_
        refine wp_iconst (v := nI 1) (pc' := 274) rfl rfl rfl ?_
        refine wp_icmpne (pc' := 277) rfl rfl ?_ ?_
        · intro h274
          refine wp_iconst (v := nI 0) (pc' := 282) rfl rfl rfl ?_
          refine wp_iret rfl rfl (by first | rfl | exact nar_if) ?_
          first | exact Qv kk (by rw [if_pos (Or.inl h264)]) rfl | exact Qv kk (by rw [if_pos (Or.inr (by rw [← h274, upr_same]))]) rfl | exact Qv kk (by rw [if_neg (fun q => q.elim h264 (fun e => h274 (by rw [upr_same]; exact e)))]) rfl
        · intro h274
          refine wp_iconst (v := nI 1) (pc' := 278) rfl rfl rfl ?_
          refine wp_goto rfl ?_
          refine wp_iret rfl rfl (by first | rfl | exact nar_if) ?_
          first | exact Qv kk (by rw [if_pos (Or.inl h264)]) rfl | exact Qv kk (by rw [if_pos (Or.inr (by rw [← h274, upr_same]))]) rfl | exact Qv kk (by rw [if_neg (fun q => q.elim h264 (fun e => h274 (by rw [upr_same]; exact e)))]) rfl
    | succ r ih =>
      intro i v6 v7 v8 v9 hi hv0 hv1 hv2 hv3
      have hlt : i < (b1 - b0) := by omega
      obtain ⟨p, hp⟩ : ∃ p, rrun (I 319) c (I 326) b0 i = p := ⟨_, rfl⟩
      have hpd : p.1 = rdep (I 319) b0 i := by rw [← hp]; exact rrun_dep i
      have hpl : p.1 ≤ i := by rw [hpd]; exact rdep_le i
      obtain ⟨k, hk⟩ : ∃ k, I 319 (532 + 2 * (b0 + i)) = k := ⟨_, rfl⟩
      have hok := hw1 i (by omega)
      rw [hk, ← hpd] at hok
      clear hpd
      have hsx : rrun (I 319) c (I 326) b0 (i + 1) = rstep k (facC (I 319) c k (I 319 (532 + 2 * (b0 + i) + 1))) p := by rw [← hp, ← hk]; rfl
      rw [hp]
      refine wp_iload5 (pc' := 24) rfl rfl ?_
      refine wp_aload0 (pc' := 25) rfl rfl ?_
      refine wp_getRF (pc' := 28) rfl rfl (by first | exact TK.k1 hT rfl | exact TK.kk hT rfl | exact TK.r hT rfl | assumption) (by first | exact TK.k1 hT rfl | exact TK.kk hT rfl | exact TK.r hT rfl | assumption) rfl ?_
      refine wp_iload4 (pc' := 30) rfl rfl ?_
      refine wp_iconst (v := nI 3) (pc' := 31) rfl rfl rfl ?_
      first | refine wp_iaddN (pc' := 32) rfl (by with_reducible rfl) (by with_reducible rfl) rfl ?_ | refine wp_iadd (pc' := 32) rfl rfl ?_
      refine wp_iald _ (pc' := 33) rfl (by first | exact TK.k1 hT rfl | exact TK.kk hT rfl | exact TK.r hT rfl | assumption) (by with_reducible rfl) (by omega) (by first | decide | assumption | omega) rfl ?_
      refine wp_icmpgeF (pc' := 36) rfl (by rw [upr_ne (show (319 : Nat) ≠ 326 by decide), hb1]; exact nI_lt (by omega) (by omega)) rfl ?_
      refine wp_aload0 (pc' := 37) rfl rfl ?_
      refine wp_getRF (pc' := 40) rfl rfl (by first | exact TK.k1 hT rfl | exact TK.kk hT rfl | exact TK.r hT rfl | assumption) (by first | exact TK.k1 hT rfl | exact TK.kk hT rfl | exact TK.r hT rfl | assumption) rfl ?_
      refine wp_sipush (v := nI 532) (pc' := 43) rfl rfl rfl ?_
      refine wp_iconst (v := nI 2) (pc' := 44) rfl rfl rfl ?_
      refine wp_iload5 (pc' := 46) rfl rfl ?_
      first | refine wp_imulN (pc' := 47) rfl (by with_reducible rfl) (by with_reducible rfl) rfl ?_ | refine wp_imul (pc' := 47) rfl rfl ?_
      first | refine wp_iaddN (pc' := 48) rfl (by with_reducible rfl) (by with_reducible rfl) rfl ?_ | refine wp_iadd (pc' := 48) rfl rfl ?_
      refine wp_iald _ (pc' := 49) rfl (by first | exact TK.k1 hT rfl | exact TK.kk hT rfl | exact TK.r hT rfl | assumption) (by with_reducible rfl) (by omega) (by first | decide | assumption | omega) rfl ?_
      rw [upr_ne (show (319 : Nat) ≠ 326 by decide), hk]
      refine wp_istore6 (pc' := 51) rfl (by first | rfl | assumption) rfl ?_
      refine wp_iload6 (pc' := 53) rfl rfl ?_
      refine wp_bipush (v := nI 10) (pc' := 55) rfl rfl rfl ?_
      refine wp_icmpgt (pc' := 58) rfl rfl ?_ ?_
      · intro h55
        refine wp_iload6 (pc' := 94) rfl rfl ?_
        refine wp_bipush (v := nI 14) (pc' := 96) rfl rfl rfl ?_
        refine wp_icmpne (pc' := 99) rfl rfl ?_ ?_
        · intro h96
          have hd2 := (hok h55).2 h96
          first | refine wp_iinc3 (w := (-1)) (pc' := 123) rfl rfl rfl (by with_reducible exact nI_sub1 (by omega)) rfl ?_ | refine wp_iinc3 (w := (-1)) (pc' := 123) rfl rfl rfl rfl rfl ?_
          refine wp_aload0 (pc' := 124) rfl rfl ?_
          refine wp_getRF (pc' := 127) rfl rfl (by first | exact TK.k1 hT rfl | exact TK.kk hT rfl | exact TK.r hT rfl | assumption) (by first | exact TK.k1 hT rfl | exact TK.kk hT rfl | exact TK.r hT rfl | assumption) rfl ?_
          refine wp_iload3 (pc' := 128) rfl rfl ?_
          refine wp_iconst (v := nI 1) (pc' := 129) rfl rfl rfl ?_
          first | refine wp_isubN (pc' := 130) rfl (by with_reducible rfl) (by with_reducible rfl) (by omega) rfl ?_ | refine wp_isub (pc' := 130) rfl rfl ?_
          refine wp_iald _ (pc' := 131) rfl (by first | exact TK.k1 hT rfl | exact TK.kk hT rfl | exact TK.r hT rfl | assumption) (by with_reducible rfl) (by omega) (by first | decide | assumption | omega) rfl ?_
          rw [upr_same]
          refine wp_istore7 (pc' := 133) rfl (by first | rfl | assumption) rfl ?_
          refine wp_aload0 (pc' := 134) rfl rfl ?_
          refine wp_getRF (pc' := 137) rfl rfl (by first | exact TK.k1 hT rfl | exact TK.kk hT rfl | exact TK.r hT rfl | assumption) (by first | exact TK.k1 hT rfl | exact TK.kk hT rfl | exact TK.r hT rfl | assumption) rfl ?_
          refine wp_iload3 (pc' := 138) rfl rfl ?_
          refine wp_iald _ (pc' := 139) rfl (by first | exact TK.k1 hT rfl | exact TK.kk hT rfl | exact TK.r hT rfl | assumption) (by with_reducible rfl) (by omega) (by first | decide | assumption | omega) rfl ?_
          rw [upr_same]
          refine wp_istore8 (pc' := 141) rfl (by first | rfl | assumption) rfl ?_
          refine wp_iload6 (pc' := 143) rfl rfl ?_
          refine wp_bipush (v := nI 12) (pc' := 145) rfl rfl rfl ?_
          refine wp_icmpne (pc' := 148) rfl rfl ?_ ?_
          · intro h145
            refine wp_iload6 (pc' := 165) rfl rfl ?_
            refine wp_bipush (v := nI 13) (pc' := 167) rfl rfl rfl ?_
            refine wp_icmpne (pc' := 170) rfl rfl ?_ ?_
            · intro h167
              refine wp_iload6 (pc' := 187) rfl rfl ?_
              refine wp_bipush (v := nI 15) (pc' := 189) rfl rfl rfl ?_
              refine wp_icmpne (pc' := 192) rfl rfl ?_ ?_
              · intro h189
                refine wp_iload7 (pc' := 211) rfl rfl ?_
                refine wp_iload8 (pc' := 213) rfl rfl ?_
                first | refine wp_iaddN (pc' := 214) rfl (by with_reducible rfl) (by with_reducible rfl) rfl ?_ | refine wp_iadd (pc' := 214) rfl rfl ?_
                refine wp_ifle (pc' := 217) rfl rfl ?_ ?_
                · intro h214
                  refine wp_iconst (v := nI 0) (pc' := 222) rfl rfl rfl ?_
                  refine wp_istore9 (pc' := 224) rfl (by first | rfl | assumption) rfl ?_
                  refine wp_aload0 (pc' := 225) rfl rfl ?_
                  refine wp_getRF (pc' := 228) rfl rfl (by first | exact TK.k1 hT rfl | exact TK.kk hT rfl | exact TK.r hT rfl | assumption) (by first | exact TK.k1 hT rfl | exact TK.kk hT rfl | exact TK.r hT rfl | assumption) rfl ?_
                  refine wp_iload3 (pc' := 229) rfl rfl ?_
                  refine wp_iconst (v := nI 1) (pc' := 230) rfl rfl rfl ?_
                  first | refine wp_isubN (pc' := 231) rfl (by with_reducible rfl) (by with_reducible rfl) (by omega) rfl ?_ | refine wp_isub (pc' := 231) rfl rfl ?_
                  refine wp_iload6 (pc' := 233) rfl rfl ?_
                  refine wp_bipush (v := nI 11) (pc' := 235) rfl rfl rfl ?_
                  refine wp_icmpne (pc' := 238) rfl rfl ?_ ?_
                  · intro h235
                    refine wp_iload9 (pc' := 248) rfl rfl ?_
                    first | refine wp_ifeqB (pc' := 251) rfl rfl ?_ ?_ | refine wp_ifeq (pc' := 251) rfl rfl ?_ ?_
                    · intro h248
                      refine wp_iconst (v := nI 0) (pc' := 256) rfl rfl rfl ?_
                      refine wp_iast _ (pc' := 257) rfl (by first | exact TK.k1 hT rfl | exact TK.kk hT rfl | exact TK.r hT rfl | assumption) (by omega) (by with_reducible rfl) (by omega) (by first | decide | assumption | omega) rfl ?_
                      first | refine wp_iinc5 (w := nI 1) (pc' := 260) rfl rfl rfl (by with_reducible exact nI_add _ _) rfl ?_ | refine wp_iinc5 (w := nI 1) (pc' := 260) rfl rfl rfl rfl rfl ?_
                      refine wp_goto rfl ?_
                      exact WP.cg (ih (i + 1) _ _ _ _ (by omega) (by first | rfl | assumption) (by first | rfl | assumption) (by first | rfl | assumption) (by first | rfl | assumption)) (lC1 (lI1 (by first | with_reducible rfl | (show nI (b0 + i + 1) = nI (b0 + (i + 1)); rfl) | (rw [hsx]; simp +decide only [rstep, *, ↓reduceIte]; done)) (lI1 (by first | with_reducible rfl | (show nI (b0 + i + 1) = nI (b0 + (i + 1)); rfl) | (rw [hsx]; simp +decide only [rstep, *, ↓reduceIte]; done)) (lI1 (by first | with_reducible rfl | (show nI (b0 + i + 1) = nI (b0 + (i + 1)); rfl) | (rw [hsx]; simp +decide only [rstep, *, ↓reduceIte]; done)) (lI1 (by first | with_reducible rfl | (show nI (b0 + i + 1) = nI (b0 + (i + 1)); rfl) | (rw [hsx]; simp +decide only [rstep, *, ↓reduceIte]; done)) (lI1 (by first | with_reducible rfl | (show nI (b0 + i + 1) = nI (b0 + (i + 1)); rfl) | (rw [hsx]; simp +decide only [rstep, *, ↓reduceIte]; done)) (lC1 (lC1 (lC1 (lC1 rfl)))))))))) rfl (by first | exact absurd (h145.symm.trans h235) (by decide) | exact absurd (h167.symm.trans h235) (by decide) | exact absurd (h189.symm.trans h235) (by decide) | exact absurd rfl h248 | exact absurd h248 (by decide) | (rw [hsx, up2_upr]; simp +decide only [upr_same, rstep, rjoin, rholP, *, ↓reduceIte]; done))
                    · intro h248
                      refine wp_iconst (v := nI 1) (pc' := 252) rfl rfl rfl ?_
                      refine wp_goto rfl ?_
                      refine wp_iast _ (pc' := 257) rfl (by first | exact TK.k1 hT rfl | exact TK.kk hT rfl | exact TK.r hT rfl | assumption) (by omega) (by with_reducible rfl) (by omega) (by first | decide | assumption | omega) rfl ?_
                      first | refine wp_iinc5 (w := nI 1) (pc' := 260) rfl rfl rfl (by with_reducible exact nI_add _ _) rfl ?_ | refine wp_iinc5 (w := nI 1) (pc' := 260) rfl rfl rfl rfl rfl ?_
                      refine wp_goto rfl ?_
                      exact WP.cg (ih (i + 1) _ _ _ _ (by omega) (by first | rfl | assumption) (by first | rfl | assumption) (by first | rfl | assumption) (by first | rfl | assumption)) (lC1 (lI1 (by first | with_reducible rfl | (show nI (b0 + i + 1) = nI (b0 + (i + 1)); rfl) | (rw [hsx]; simp +decide only [rstep, *, ↓reduceIte]; done)) (lI1 (by first | with_reducible rfl | (show nI (b0 + i + 1) = nI (b0 + (i + 1)); rfl) | (rw [hsx]; simp +decide only [rstep, *, ↓reduceIte]; done)) (lI1 (by first | with_reducible rfl | (show nI (b0 + i + 1) = nI (b0 + (i + 1)); rfl) | (rw [hsx]; simp +decide only [rstep, *, ↓reduceIte]; done)) (lI1 (by first | with_reducible rfl | (show nI (b0 + i + 1) = nI (b0 + (i + 1)); rfl) | (rw [hsx]; simp +decide only [rstep, *, ↓reduceIte]; done)) (lI1 (by first | with_reducible rfl | (show nI (b0 + i + 1) = nI (b0 + (i + 1)); rfl) | (rw [hsx]; simp +decide only [rstep, *, ↓reduceIte]; done)) (lC1 (lC1 (lC1 (lC1 rfl)))))))))) rfl (by first | exact absurd (h145.symm.trans h235) (by decide) | exact absurd (h167.symm.trans h235) (by decide) | exact absurd (h189.symm.trans h235) (by decide) | exact absurd rfl h248 | exact absurd h248 (by decide) | (rw [hsx, up2_upr]; simp +decide only [upr_same, rstep, rjoin, rholP, *, ↓reduceIte]; done))
                  · intro h235
                    refine wp_iload7 (pc' := 240) rfl rfl ?_
                    refine wp_iload8 (pc' := 242) rfl rfl ?_
                    first | refine wp_iaddN (pc' := 243) rfl (by with_reducible rfl) (by with_reducible rfl) rfl ?_ | refine wp_iadd (pc' := 243) rfl rfl ?_
                    refine wp_goto rfl ?_
                    refine wp_iast _ (pc' := 257) rfl (by first | exact TK.k1 hT rfl | exact TK.kk hT rfl | exact TK.r hT rfl | assumption) (by omega) (by with_reducible rfl) (by omega) (by first | decide | assumption | omega) rfl ?_
                    first | refine wp_iinc5 (w := nI 1) (pc' := 260) rfl rfl rfl (by with_reducible exact nI_add _ _) rfl ?_ | refine wp_iinc5 (w := nI 1) (pc' := 260) rfl rfl rfl rfl rfl ?_
                    refine wp_goto rfl ?_
                    exact WP.cg (ih (i + 1) _ _ _ _ (by omega) (by first | rfl | assumption) (by first | rfl | assumption) (by first | rfl | assumption) (by first | rfl | assumption)) (lC1 (lI1 (by first | with_reducible rfl | (show nI (b0 + i + 1) = nI (b0 + (i + 1)); rfl) | (rw [hsx]; simp +decide only [rstep, *, ↓reduceIte]; done)) (lI1 (by first | with_reducible rfl | (show nI (b0 + i + 1) = nI (b0 + (i + 1)); rfl) | (rw [hsx]; simp +decide only [rstep, *, ↓reduceIte]; done)) (lI1 (by first | with_reducible rfl | (show nI (b0 + i + 1) = nI (b0 + (i + 1)); rfl) | (rw [hsx]; simp +decide only [rstep, *, ↓reduceIte]; done)) (lI1 (by first | with_reducible rfl | (show nI (b0 + i + 1) = nI (b0 + (i + 1)); rfl) | (rw [hsx]; simp +decide only [rstep, *, ↓reduceIte]; done)) (lI1 (by first | with_reducible rfl | (show nI (b0 + i + 1) = nI (b0 + (i + 1)); rfl) | (rw [hsx]; simp +decide only [rstep, *, ↓reduceIte]; done)) (lC1 (lC1 (lC1 (lC1 rfl)))))))))) rfl (by first | exact absurd (h145.symm.trans h235) (by decide) | exact absurd (h167.symm.trans h235) (by decide) | exact absurd (h189.symm.trans h235) (by decide) | exact absurd rfl h248 | exact absurd h248 (by decide) | (rw [hsx, up2_upr]; simp +decide only [upr_same, rstep, rjoin, rholP, *, ↓reduceIte]; done))
                · intro h214
                  refine wp_iconst (v := nI 1) (pc' := 218) rfl rfl rfl ?_
                  refine wp_goto rfl ?_
                  refine wp_istore9 (pc' := 224) rfl (by first | rfl | assumption) rfl ?_
                  refine wp_aload0 (pc' := 225) rfl rfl ?_
                  refine wp_getRF (pc' := 228) rfl rfl (by first | exact TK.k1 hT rfl | exact TK.kk hT rfl | exact TK.r hT rfl | assumption) (by first | exact TK.k1 hT rfl | exact TK.kk hT rfl | exact TK.r hT rfl | assumption) rfl ?_
                  refine wp_iload3 (pc' := 229) rfl rfl ?_
                  refine wp_iconst (v := nI 1) (pc' := 230) rfl rfl rfl ?_
                  first | refine wp_isubN (pc' := 231) rfl (by with_reducible rfl) (by with_reducible rfl) (by omega) rfl ?_ | refine wp_isub (pc' := 231) rfl rfl ?_
                  refine wp_iload6 (pc' := 233) rfl rfl ?_
                  refine wp_bipush (v := nI 11) (pc' := 235) rfl rfl rfl ?_
                  refine wp_icmpne (pc' := 238) rfl rfl ?_ ?_
                  · intro h235
                    refine wp_iload9 (pc' := 248) rfl rfl ?_
                    first | refine wp_ifeqB (pc' := 251) rfl rfl ?_ ?_ | refine wp_ifeq (pc' := 251) rfl rfl ?_ ?_
                    · intro h248
                      refine wp_iconst (v := nI 0) (pc' := 256) rfl rfl rfl ?_
                      refine wp_iast _ (pc' := 257) rfl (by first | exact TK.k1 hT rfl | exact TK.kk hT rfl | exact TK.r hT rfl | assumption) (by omega) (by with_reducible rfl) (by omega) (by first | decide | assumption | omega) rfl ?_
                      first | refine wp_iinc5 (w := nI 1) (pc' := 260) rfl rfl rfl (by with_reducible exact nI_add _ _) rfl ?_ | refine wp_iinc5 (w := nI 1) (pc' := 260) rfl rfl rfl rfl rfl ?_
                      refine wp_goto rfl ?_
                      exact WP.cg (ih (i + 1) _ _ _ _ (by omega) (by first | rfl | assumption) (by first | rfl | assumption) (by first | rfl | assumption) (by first | rfl | assumption)) (lC1 (lI1 (by first | with_reducible rfl | (show nI (b0 + i + 1) = nI (b0 + (i + 1)); rfl) | (rw [hsx]; simp +decide only [rstep, *, ↓reduceIte]; done)) (lI1 (by first | with_reducible rfl | (show nI (b0 + i + 1) = nI (b0 + (i + 1)); rfl) | (rw [hsx]; simp +decide only [rstep, *, ↓reduceIte]; done)) (lI1 (by first | with_reducible rfl | (show nI (b0 + i + 1) = nI (b0 + (i + 1)); rfl) | (rw [hsx]; simp +decide only [rstep, *, ↓reduceIte]; done)) (lI1 (by first | with_reducible rfl | (show nI (b0 + i + 1) = nI (b0 + (i + 1)); rfl) | (rw [hsx]; simp +decide only [rstep, *, ↓reduceIte]; done)) (lI1 (by first | with_reducible rfl | (show nI (b0 + i + 1) = nI (b0 + (i + 1)); rfl) | (rw [hsx]; simp +decide only [rstep, *, ↓reduceIte]; done)) (lC1 (lC1 (lC1 (lC1 rfl)))))))))) rfl (by first | exact absurd (h145.symm.trans h235) (by decide) | exact absurd (h167.symm.trans h235) (by decide) | exact absurd (h189.symm.trans h235) (by decide) | exact absurd rfl h248 | exact absurd h248 (by decide) | (rw [hsx, up2_upr]; simp +decide only [upr_same, rstep, rjoin, rholP, *, ↓reduceIte]; done))
                    · intro h248
                      refine wp_iconst (v := nI 1) (pc' := 252) rfl rfl rfl ?_
                      refine wp_goto rfl ?_
                      refine wp_iast _ (pc' := 257) rfl (by first | exact TK.k1 hT rfl | exact TK.kk hT rfl | exact TK.r hT rfl | assumption) (by omega) (by with_reducible rfl) (by omega) (by first | decide | assumption | omega) rfl ?_
                      first | refine wp_iinc5 (w := nI 1) (pc' := 260) rfl rfl rfl (by with_reducible exact nI_add _ _) rfl ?_ | refine wp_iinc5 (w := nI 1) (pc' := 260) rfl rfl rfl rfl rfl ?_
                      refine wp_goto rfl ?_
                      exact WP.cg (ih (i + 1) _ _ _ _ (by omega) (by first | rfl | assumption) (by first | rfl | assumption) (by first | rfl | assumption) (by first | rfl | assumption)) (lC1 (lI1 (by first | with_reducible rfl | (show nI (b0 + i + 1) = nI (b0 + (i + 1)); rfl) | (rw [hsx]; simp +decide only [rstep, *, ↓reduceIte]; done)) (lI1 (by first | with_reducible rfl | (show nI (b0 + i + 1) = nI (b0 + (i + 1)); rfl) | (rw [hsx]; simp +decide only [rstep, *, ↓reduceIte]; done)) (lI1 (by first | with_reducible rfl | (show nI (b0 + i + 1) = nI (b0 + (i + 1)); rfl) | (rw [hsx]; simp +decide only [rstep, *, ↓reduceIte]; done)) (lI1 (by first | with_reducible rfl | (show nI (b0 + i + 1) = nI (b0 + (i + 1)); rfl) | (rw [hsx]; simp +decide only [rstep, *, ↓reduceIte]; done)) (lI1 (by first | with_reducible rfl | (show nI (b0 + i + 1) = nI (b0 + (i + 1)); rfl) | (rw [hsx]; simp +decide only [rstep, *, ↓reduceIte]; done)) (lC1 (lC1 (lC1 (lC1 rfl)))))))))) rfl (by first | exact absurd (h145.symm.trans h235) (by decide) | exact absurd (h167.symm.trans h235) (by decide) | exact absurd (h189.symm.trans h235) (by decide) | exact absurd rfl h248 | exact absurd h248 (by decide) | (rw [hsx, up2_upr]; simp +decide only [upr_same, rstep, rjoin, rholP, *, ↓reduceIte]; done))
                  · intro h235
                    refine wp_iload7 (pc' := 240) rfl rfl ?_
                    refine wp_iload8 (pc' := 242) rfl rfl ?_
                    first | refine wp_iaddN (pc' := 243) rfl (by with_reducible rfl) (by with_reducible rfl) rfl ?_ | refine wp_iadd (pc' := 243) rfl rfl ?_
                    refine wp_goto rfl ?_
                    refine wp_iast _ (pc' := 257) rfl (by first | exact TK.k1 hT rfl | exact TK.kk hT rfl | exact TK.r hT rfl | assumption) (by omega) (by with_reducible rfl) (by omega) (by first | decide | assumption | omega) rfl ?_
                    first | refine wp_iinc5 (w := nI 1) (pc' := 260) rfl rfl rfl (by with_reducible exact nI_add _ _) rfl ?_ | refine wp_iinc5 (w := nI 1) (pc' := 260) rfl rfl rfl rfl rfl ?_
                    refine wp_goto rfl ?_
                    exact WP.cg (ih (i + 1) _ _ _ _ (by omega) (by first | rfl | assumption) (by first | rfl | assumption) (by first | rfl | assumption) (by first | rfl | assumption)) (lC1 (lI1 (by first | with_reducible rfl | (show nI (b0 + i + 1) = nI (b0 + (i + 1)); rfl) | (rw [hsx]; simp +decide only [rstep, *, ↓reduceIte]; done)) (lI1 (by first | with_reducible rfl | (show nI (b0 + i + 1) = nI (b0 + (i + 1)); rfl) | (rw [hsx]; simp +decide only [rstep, *, ↓reduceIte]; done)) (lI1 (by first | with_reducible rfl | (show nI (b0 + i + 1) = nI (b0 + (i + 1)); rfl) | (rw [hsx]; simp +decide only [rstep, *, ↓reduceIte]; done)) (lI1 (by first | with_reducible rfl | (show nI (b0 + i + 1) = nI (b0 + (i + 1)); rfl) | (rw [hsx]; simp +decide only [rstep, *, ↓reduceIte]; done)) (lI1 (by first | with_reducible rfl | (show nI (b0 + i + 1) = nI (b0 + (i + 1)); rfl) | (rw [hsx]; simp +decide only [rstep, *, ↓reduceIte]; done)) (lC1 (lC1 (lC1 (lC1 rfl)))))))))) rfl (by first | exact absurd (h145.symm.trans h235) (by decide) | exact absurd (h167.symm.trans h235) (by decide) | exact absurd (h189.symm.trans h235) (by decide) | exact absurd rfl h248 | exact absurd h248 (by decide) | (rw [hsx, up2_upr]; simp +decide only [upr_same, rstep, rjoin, rholP, *, ↓reduceIte]; done))
              · intro h189
                refine wp_iload7 (pc' := 194) rfl rfl ?_
                refine wp_iload8 (pc' := 196) rfl rfl ?_
                first | refine wp_iaddN (pc' := 197) rfl (by with_reducible rfl) (by with_reducible rfl) rfl ?_ | refine wp_iadd (pc' := 197) rfl rfl ?_
                refine wp_iconst (v := nI 2) (pc' := 198) rfl rfl rfl ?_
                refine wp_icmpne (pc' := 201) rfl rfl ?_ ?_
                · intro h198
                  refine wp_iconst (v := nI 0) (pc' := 206) rfl rfl rfl ?_
                  refine wp_goto rfl ?_
                  refine wp_istore9 (pc' := 224) rfl (by first | rfl | assumption) rfl ?_
                  refine wp_aload0 (pc' := 225) rfl rfl ?_
                  refine wp_getRF (pc' := 228) rfl rfl (by first | exact TK.k1 hT rfl | exact TK.kk hT rfl | exact TK.r hT rfl | assumption) (by first | exact TK.k1 hT rfl | exact TK.kk hT rfl | exact TK.r hT rfl | assumption) rfl ?_
                  refine wp_iload3 (pc' := 229) rfl rfl ?_
                  refine wp_iconst (v := nI 1) (pc' := 230) rfl rfl rfl ?_
                  first | refine wp_isubN (pc' := 231) rfl (by with_reducible rfl) (by with_reducible rfl) (by omega) rfl ?_ | refine wp_isub (pc' := 231) rfl rfl ?_
                  refine wp_iload6 (pc' := 233) rfl rfl ?_
                  refine wp_bipush (v := nI 11) (pc' := 235) rfl rfl rfl ?_
                  refine wp_icmpne (pc' := 238) rfl rfl ?_ ?_
                  · intro h235
                    refine wp_iload9 (pc' := 248) rfl rfl ?_
                    first | refine wp_ifeqB (pc' := 251) rfl rfl ?_ ?_ | refine wp_ifeq (pc' := 251) rfl rfl ?_ ?_
                    · intro h248
                      refine wp_iconst (v := nI 0) (pc' := 256) rfl rfl rfl ?_
                      refine wp_iast _ (pc' := 257) rfl (by first | exact TK.k1 hT rfl | exact TK.kk hT rfl | exact TK.r hT rfl | assumption) (by omega) (by with_reducible rfl) (by omega) (by first | decide | assumption | omega) rfl ?_
                      first | refine wp_iinc5 (w := nI 1) (pc' := 260) rfl rfl rfl (by with_reducible exact nI_add _ _) rfl ?_ | refine wp_iinc5 (w := nI 1) (pc' := 260) rfl rfl rfl rfl rfl ?_
                      refine wp_goto rfl ?_
                      exact WP.cg (ih (i + 1) _ _ _ _ (by omega) (by first | rfl | assumption) (by first | rfl | assumption) (by first | rfl | assumption) (by first | rfl | assumption)) (lC1 (lI1 (by first | with_reducible rfl | (show nI (b0 + i + 1) = nI (b0 + (i + 1)); rfl) | (rw [hsx]; simp +decide only [rstep, *, ↓reduceIte]; done)) (lI1 (by first | with_reducible rfl | (show nI (b0 + i + 1) = nI (b0 + (i + 1)); rfl) | (rw [hsx]; simp +decide only [rstep, *, ↓reduceIte]; done)) (lI1 (by first | with_reducible rfl | (show nI (b0 + i + 1) = nI (b0 + (i + 1)); rfl) | (rw [hsx]; simp +decide only [rstep, *, ↓reduceIte]; done)) (lI1 (by first | with_reducible rfl | (show nI (b0 + i + 1) = nI (b0 + (i + 1)); rfl) | (rw [hsx]; simp +decide only [rstep, *, ↓reduceIte]; done)) (lI1 (by first | with_reducible rfl | (show nI (b0 + i + 1) = nI (b0 + (i + 1)); rfl) | (rw [hsx]; simp +decide only [rstep, *, ↓reduceIte]; done)) (lC1 (lC1 (lC1 (lC1 rfl)))))))))) rfl (by first | exact absurd (h145.symm.trans h235) (by decide) | exact absurd (h167.symm.trans h235) (by decide) | exact absurd (h189.symm.trans h235) (by decide) | exact absurd rfl h248 | exact absurd h248 (by decide) | (rw [hsx, up2_upr]; simp +decide only [upr_same, rstep, rjoin, rholP, *, ↓reduceIte]; done))
                    · intro h248
                      refine wp_iconst (v := nI 1) (pc' := 252) rfl rfl rfl ?_
                      refine wp_goto rfl ?_
                      refine wp_iast _ (pc' := 257) rfl (by first | exact TK.k1 hT rfl | exact TK.kk hT rfl | exact TK.r hT rfl | assumption) (by omega) (by with_reducible rfl) (by omega) (by first | decide | assumption | omega) rfl ?_
                      first | refine wp_iinc5 (w := nI 1) (pc' := 260) rfl rfl rfl (by with_reducible exact nI_add _ _) rfl ?_ | refine wp_iinc5 (w := nI 1) (pc' := 260) rfl rfl rfl rfl rfl ?_
                      refine wp_goto rfl ?_
                      exact WP.cg (ih (i + 1) _ _ _ _ (by omega) (by first | rfl | assumption) (by first | rfl | assumption) (by first | rfl | assumption) (by first | rfl | assumption)) (lC1 (lI1 (by first | with_reducible rfl | (show nI (b0 + i + 1) = nI (b0 + (i + 1)); rfl) | (rw [hsx]; simp +decide only [rstep, *, ↓reduceIte]; done)) (lI1 (by first | with_reducible rfl | (show nI (b0 + i + 1) = nI (b0 + (i + 1)); rfl) | (rw [hsx]; simp +decide only [rstep, *, ↓reduceIte]; done)) (lI1 (by first | with_reducible rfl | (show nI (b0 + i + 1) = nI (b0 + (i + 1)); rfl) | (rw [hsx]; simp +decide only [rstep, *, ↓reduceIte]; done)) (lI1 (by first | with_reducible rfl | (show nI (b0 + i + 1) = nI (b0 + (i + 1)); rfl) | (rw [hsx]; simp +decide only [rstep, *, ↓reduceIte]; done)) (lI1 (by first | with_reducible rfl | (show nI (b0 + i + 1) = nI (b0 + (i + 1)); rfl) | (rw [hsx]; simp +decide only [rstep, *, ↓reduceIte]; done)) (lC1 (lC1 (lC1 (lC1 rfl)))))))))) rfl (by first | exact absurd (h145.symm.trans h235) (by decide) | exact absurd (h167.symm.trans h235) (by decide) | exact absurd (h189.symm.trans h235) (by decide) | exact absurd rfl h248 | exact absurd h248 (by decide) | (rw [hsx, up2_upr]; simp +decide only [upr_same, rstep, rjoin, rholP, *, ↓reduceIte]; done))
                  · intro h235
                    refine wp_iload7 (pc' := 240) rfl rfl ?_
                    refine wp_iload8 (pc' := 242) rfl rfl ?_
                    first | refine wp_iaddN (pc' := 243) rfl (by with_reducible rfl) (by with_reducible rfl) rfl ?_ | refine wp_iadd (pc' := 243) rfl rfl ?_
                    refine wp_goto rfl ?_
                    refine wp_iast _ (pc' := 257) rfl (by first | exact TK.k1 hT rfl | exact TK.kk hT rfl | exact TK.r hT rfl | assumption) (by omega) (by with_reducible rfl) (by omega) (by first | decide | assumption | omega) rfl ?_
                    first | refine wp_iinc5 (w := nI 1) (pc' := 260) rfl rfl rfl (by with_reducible exact nI_add _ _) rfl ?_ | refine wp_iinc5 (w := nI 1) (pc' := 260) rfl rfl rfl rfl rfl ?_
                    refine wp_goto rfl ?_
                    exact WP.cg (ih (i + 1) _ _ _ _ (by omega) (by first | rfl | assumption) (by first | rfl | assumption) (by first | rfl | assumption) (by first | rfl | assumption)) (lC1 (lI1 (by first | with_reducible rfl | (show nI (b0 + i + 1) = nI (b0 + (i + 1)); rfl) | (rw [hsx]; simp +decide only [rstep, *, ↓reduceIte]; done)) (lI1 (by first | with_reducible rfl | (show nI (b0 + i + 1) = nI (b0 + (i + 1)); rfl) | (rw [hsx]; simp +decide only [rstep, *, ↓reduceIte]; done)) (lI1 (by first | with_reducible rfl | (show nI (b0 + i + 1) = nI (b0 + (i + 1)); rfl) | (rw [hsx]; simp +decide only [rstep, *, ↓reduceIte]; done)) (lI1 (by first | with_reducible rfl | (show nI (b0 + i + 1) = nI (b0 + (i + 1)); rfl) | (rw [hsx]; simp +decide only [rstep, *, ↓reduceIte]; done)) (lI1 (by first | with_reducible rfl | (show nI (b0 + i + 1) = nI (b0 + (i + 1)); rfl) | (rw [hsx]; simp +decide only [rstep, *, ↓reduceIte]; done)) (lC1 (lC1 (lC1 (lC1 rfl)))))))))) rfl (by first | exact absurd (h145.symm.trans h235) (by decide) | exact absurd (h167.symm.trans h235) (by decide) | exact absurd (h189.symm.trans h235) (by decide) | exact absurd rfl h248 | exact absurd h248 (by decide) | (rw [hsx, up2_upr]; simp +decide only [upr_same, rstep, rjoin, rholP, *, ↓reduceIte]; done))
                · intro h198
                  refine wp_iconst (v := nI 1) (pc' := 202) rfl rfl rfl ?_
                  refine wp_goto rfl ?_
                  refine wp_istore9 (pc' := 224) rfl (by first | rfl | assumption) rfl ?_
                  refine wp_aload0 (pc' := 225) rfl rfl ?_
                  refine wp_getRF (pc' := 228) rfl rfl (by first | exact TK.k1 hT rfl | exact TK.kk hT rfl | exact TK.r hT rfl | assumption) (by first | exact TK.k1 hT rfl | exact TK.kk hT rfl | exact TK.r hT rfl | assumption) rfl ?_
                  refine wp_iload3 (pc' := 229) rfl rfl ?_
                  refine wp_iconst (v := nI 1) (pc' := 230) rfl rfl rfl ?_
                  first | refine wp_isubN (pc' := 231) rfl (by with_reducible rfl) (by with_reducible rfl) (by omega) rfl ?_ | refine wp_isub (pc' := 231) rfl rfl ?_
                  refine wp_iload6 (pc' := 233) rfl rfl ?_
                  refine wp_bipush (v := nI 11) (pc' := 235) rfl rfl rfl ?_
                  refine wp_icmpne (pc' := 238) rfl rfl ?_ ?_
                  · intro h235
                    refine wp_iload9 (pc' := 248) rfl rfl ?_
                    first | refine wp_ifeqB (pc' := 251) rfl rfl ?_ ?_ | refine wp_ifeq (pc' := 251) rfl rfl ?_ ?_
                    · intro h248
                      refine wp_iconst (v := nI 0) (pc' := 256) rfl rfl rfl ?_
                      refine wp_iast _ (pc' := 257) rfl (by first | exact TK.k1 hT rfl | exact TK.kk hT rfl | exact TK.r hT rfl | assumption) (by omega) (by with_reducible rfl) (by omega) (by first | decide | assumption | omega) rfl ?_
                      first | refine wp_iinc5 (w := nI 1) (pc' := 260) rfl rfl rfl (by with_reducible exact nI_add _ _) rfl ?_ | refine wp_iinc5 (w := nI 1) (pc' := 260) rfl rfl rfl rfl rfl ?_
                      refine wp_goto rfl ?_
                      exact WP.cg (ih (i + 1) _ _ _ _ (by omega) (by first | rfl | assumption) (by first | rfl | assumption) (by first | rfl | assumption) (by first | rfl | assumption)) (lC1 (lI1 (by first | with_reducible rfl | (show nI (b0 + i + 1) = nI (b0 + (i + 1)); rfl) | (rw [hsx]; simp +decide only [rstep, *, ↓reduceIte]; done)) (lI1 (by first | with_reducible rfl | (show nI (b0 + i + 1) = nI (b0 + (i + 1)); rfl) | (rw [hsx]; simp +decide only [rstep, *, ↓reduceIte]; done)) (lI1 (by first | with_reducible rfl | (show nI (b0 + i + 1) = nI (b0 + (i + 1)); rfl) | (rw [hsx]; simp +decide only [rstep, *, ↓reduceIte]; done)) (lI1 (by first | with_reducible rfl | (show nI (b0 + i + 1) = nI (b0 + (i + 1)); rfl) | (rw [hsx]; simp +decide only [rstep, *, ↓reduceIte]; done)) (lI1 (by first | with_reducible rfl | (show nI (b0 + i + 1) = nI (b0 + (i + 1)); rfl) | (rw [hsx]; simp +decide only [rstep, *, ↓reduceIte]; done)) (lC1 (lC1 (lC1 (lC1 rfl)))))))))) rfl (by first | exact absurd (h145.symm.trans h235) (by decide) | exact absurd (h167.symm.trans h235) (by decide) | exact absurd (h189.symm.trans h235) (by decide) | exact absurd rfl h248 | exact absurd h248 (by decide) | (rw [hsx, up2_upr]; simp +decide only [upr_same, rstep, rjoin, rholP, *, ↓reduceIte]; done))
                    · intro h248
                      refine wp_iconst (v := nI 1) (pc' := 252) rfl rfl rfl ?_
                      refine wp_goto rfl ?_
                      refine wp_iast _ (pc' := 257) rfl (by first | exact TK.k1 hT rfl | exact TK.kk hT rfl | exact TK.r hT rfl | assumption) (by omega) (by with_reducible rfl) (by omega) (by first | decide | assumption | omega) rfl ?_
                      first | refine wp_iinc5 (w := nI 1) (pc' := 260) rfl rfl rfl (by with_reducible exact nI_add _ _) rfl ?_ | refine wp_iinc5 (w := nI 1) (pc' := 260) rfl rfl rfl rfl rfl ?_
                      refine wp_goto rfl ?_
                      exact WP.cg (ih (i + 1) _ _ _ _ (by omega) (by first | rfl | assumption) (by first | rfl | assumption) (by first | rfl | assumption) (by first | rfl | assumption)) (lC1 (lI1 (by first | with_reducible rfl | (show nI (b0 + i + 1) = nI (b0 + (i + 1)); rfl) | (rw [hsx]; simp +decide only [rstep, *, ↓reduceIte]; done)) (lI1 (by first | with_reducible rfl | (show nI (b0 + i + 1) = nI (b0 + (i + 1)); rfl) | (rw [hsx]; simp +decide only [rstep, *, ↓reduceIte]; done)) (lI1 (by first | with_reducible rfl | (show nI (b0 + i + 1) = nI (b0 + (i + 1)); rfl) | (rw [hsx]; simp +decide only [rstep, *, ↓reduceIte]; done)) (lI1 (by first | with_reducible rfl | (show nI (b0 + i + 1) = nI (b0 + (i + 1)); rfl) | (rw [hsx]; simp +decide only [rstep, *, ↓reduceIte]; done)) (lI1 (by first | with_reducible rfl | (show nI (b0 + i + 1) = nI (b0 + (i + 1)); rfl) | (rw [hsx]; simp +decide only [rstep, *, ↓reduceIte]; done)) (lC1 (lC1 (lC1 (lC1 rfl)))))))))) rfl (by first | exact absurd (h145.symm.trans h235) (by decide) | exact absurd (h167.symm.trans h235) (by decide) | exact absurd (h189.symm.trans h235) (by decide) | exact absurd rfl h248 | exact absurd h248 (by decide) | (rw [hsx, up2_upr]; simp +decide only [upr_same, rstep, rjoin, rholP, *, ↓reduceIte]; done))
                  · intro h235
                    refine wp_iload7 (pc' := 240) rfl rfl ?_
                    refine wp_iload8 (pc' := 242) rfl rfl ?_
                    first | refine wp_iaddN (pc' := 243) rfl (by with_reducible rfl) (by with_reducible rfl) rfl ?_ | refine wp_iadd (pc' := 243) rfl rfl ?_
                    refine wp_goto rfl ?_
                    refine wp_iast _ (pc' := 257) rfl (by first | exact TK.k1 hT rfl | exact TK.kk hT rfl | exact TK.r hT rfl | assumption) (by omega) (by with_reducible rfl) (by omega) (by first | decide | assumption | omega) rfl ?_
                    first | refine wp_iinc5 (w := nI 1) (pc' := 260) rfl rfl rfl (by with_reducible exact nI_add _ _) rfl ?_ | refine wp_iinc5 (w := nI 1) (pc' := 260) rfl rfl rfl rfl rfl ?_
                    refine wp_goto rfl ?_
                    exact WP.cg (ih (i + 1) _ _ _ _ (by omega) (by first | rfl | assumption) (by first | rfl | assumption) (by first | rfl | assumption) (by first | rfl | assumption)) (lC1 (lI1 (by first | with_reducible rfl | (show nI (b0 + i + 1) = nI (b0 + (i + 1)); rfl) | (rw [hsx]; simp +decide only [rstep, *, ↓reduceIte]; done)) (lI1 (by first | with_reducible rfl | (show nI (b0 + i + 1) = nI (b0 + (i + 1)); rfl) | (rw [hsx]; simp +decide only [rstep, *, ↓reduceIte]; done)) (lI1 (by first | with_reducible rfl | (show nI (b0 + i + 1) = nI (b0 + (i + 1)); rfl) | (rw [hsx]; simp +decide only [rstep, *, ↓reduceIte]; done)) (lI1 (by first | with_reducible rfl | (show nI (b0 + i + 1) = nI (b0 + (i + 1)); rfl) | (rw [hsx]; simp +decide only [rstep, *, ↓reduceIte]; done)) (lI1 (by first | with_reducible rfl | (show nI (b0 + i + 1) = nI (b0 + (i + 1)); rfl) | (rw [hsx]; simp +decide only [rstep, *, ↓reduceIte]; done)) (lC1 (lC1 (lC1 (lC1 rfl)))))))))) rfl (by first | exact absurd (h145.symm.trans h235) (by decide) | exact absurd (h167.symm.trans h235) (by decide) | exact absurd (h189.symm.trans h235) (by decide) | exact absurd rfl h248 | exact absurd h248 (by decide) | (rw [hsx, up2_upr]; simp +decide only [upr_same, rstep, rjoin, rholP, *, ↓reduceIte]; done))
            · intro h167
              refine wp_iload7 (pc' := 172) rfl rfl ?_
              refine wp_iload8 (pc' := 174) rfl rfl ?_
              refine wp_icmple (pc' := 177) rfl rfl ?_ ?_
              · intro h174
                refine wp_iconst (v := nI 0) (pc' := 182) rfl rfl rfl ?_
                refine wp_goto rfl ?_
                refine wp_istore9 (pc' := 224) rfl (by first | rfl | assumption) rfl ?_
                refine wp_aload0 (pc' := 225) rfl rfl ?_
                refine wp_getRF (pc' := 228) rfl rfl (by first | exact TK.k1 hT rfl | exact TK.kk hT rfl | exact TK.r hT rfl | assumption) (by first | exact TK.k1 hT rfl | exact TK.kk hT rfl | exact TK.r hT rfl | assumption) rfl ?_
                refine wp_iload3 (pc' := 229) rfl rfl ?_
                refine wp_iconst (v := nI 1) (pc' := 230) rfl rfl rfl ?_
                first | refine wp_isubN (pc' := 231) rfl (by with_reducible rfl) (by with_reducible rfl) (by omega) rfl ?_ | refine wp_isub (pc' := 231) rfl rfl ?_
                refine wp_iload6 (pc' := 233) rfl rfl ?_
                refine wp_bipush (v := nI 11) (pc' := 235) rfl rfl rfl ?_
                refine wp_icmpne (pc' := 238) rfl rfl ?_ ?_
                · intro h235
                  refine wp_iload9 (pc' := 248) rfl rfl ?_
                  first | refine wp_ifeqB (pc' := 251) rfl rfl ?_ ?_ | refine wp_ifeq (pc' := 251) rfl rfl ?_ ?_
                  · intro h248
                    refine wp_iconst (v := nI 0) (pc' := 256) rfl rfl rfl ?_
                    refine wp_iast _ (pc' := 257) rfl (by first | exact TK.k1 hT rfl | exact TK.kk hT rfl | exact TK.r hT rfl | assumption) (by omega) (by with_reducible rfl) (by omega) (by first | decide | assumption | omega) rfl ?_
                    first | refine wp_iinc5 (w := nI 1) (pc' := 260) rfl rfl rfl (by with_reducible exact nI_add _ _) rfl ?_ | refine wp_iinc5 (w := nI 1) (pc' := 260) rfl rfl rfl rfl rfl ?_
                    refine wp_goto rfl ?_
                    exact WP.cg (ih (i + 1) _ _ _ _ (by omega) (by first | rfl | assumption) (by first | rfl | assumption) (by first | rfl | assumption) (by first | rfl | assumption)) (lC1 (lI1 (by first | with_reducible rfl | (show nI (b0 + i + 1) = nI (b0 + (i + 1)); rfl) | (rw [hsx]; simp +decide only [rstep, *, ↓reduceIte]; done)) (lI1 (by first | with_reducible rfl | (show nI (b0 + i + 1) = nI (b0 + (i + 1)); rfl) | (rw [hsx]; simp +decide only [rstep, *, ↓reduceIte]; done)) (lI1 (by first | with_reducible rfl | (show nI (b0 + i + 1) = nI (b0 + (i + 1)); rfl) | (rw [hsx]; simp +decide only [rstep, *, ↓reduceIte]; done)) (lI1 (by first | with_reducible rfl | (show nI (b0 + i + 1) = nI (b0 + (i + 1)); rfl) | (rw [hsx]; simp +decide only [rstep, *, ↓reduceIte]; done)) (lI1 (by first | with_reducible rfl | (show nI (b0 + i + 1) = nI (b0 + (i + 1)); rfl) | (rw [hsx]; simp +decide only [rstep, *, ↓reduceIte]; done)) (lC1 (lC1 (lC1 (lC1 rfl)))))))))) rfl (by first | exact absurd (h145.symm.trans h235) (by decide) | exact absurd (h167.symm.trans h235) (by decide) | exact absurd (h189.symm.trans h235) (by decide) | exact absurd rfl h248 | exact absurd h248 (by decide) | (rw [hsx, up2_upr]; simp +decide only [upr_same, rstep, rjoin, rholP, *, ↓reduceIte]; done))
                  · intro h248
                    refine wp_iconst (v := nI 1) (pc' := 252) rfl rfl rfl ?_
                    refine wp_goto rfl ?_
                    refine wp_iast _ (pc' := 257) rfl (by first | exact TK.k1 hT rfl | exact TK.kk hT rfl | exact TK.r hT rfl | assumption) (by omega) (by with_reducible rfl) (by omega) (by first | decide | assumption | omega) rfl ?_
                    first | refine wp_iinc5 (w := nI 1) (pc' := 260) rfl rfl rfl (by with_reducible exact nI_add _ _) rfl ?_ | refine wp_iinc5 (w := nI 1) (pc' := 260) rfl rfl rfl rfl rfl ?_
                    refine wp_goto rfl ?_
                    exact WP.cg (ih (i + 1) _ _ _ _ (by omega) (by first | rfl | assumption) (by first | rfl | assumption) (by first | rfl | assumption) (by first | rfl | assumption)) (lC1 (lI1 (by first | with_reducible rfl | (show nI (b0 + i + 1) = nI (b0 + (i + 1)); rfl) | (rw [hsx]; simp +decide only [rstep, *, ↓reduceIte]; done)) (lI1 (by first | with_reducible rfl | (show nI (b0 + i + 1) = nI (b0 + (i + 1)); rfl) | (rw [hsx]; simp +decide only [rstep, *, ↓reduceIte]; done)) (lI1 (by first | with_reducible rfl | (show nI (b0 + i + 1) = nI (b0 + (i + 1)); rfl) | (rw [hsx]; simp +decide only [rstep, *, ↓reduceIte]; done)) (lI1 (by first | with_reducible rfl | (show nI (b0 + i + 1) = nI (b0 + (i + 1)); rfl) | (rw [hsx]; simp +decide only [rstep, *, ↓reduceIte]; done)) (lI1 (by first | with_reducible rfl | (show nI (b0 + i + 1) = nI (b0 + (i + 1)); rfl) | (rw [hsx]; simp +decide only [rstep, *, ↓reduceIte]; done)) (lC1 (lC1 (lC1 (lC1 rfl)))))))))) rfl (by first | exact absurd (h145.symm.trans h235) (by decide) | exact absurd (h167.symm.trans h235) (by decide) | exact absurd (h189.symm.trans h235) (by decide) | exact absurd rfl h248 | exact absurd h248 (by decide) | (rw [hsx, up2_upr]; simp +decide only [upr_same, rstep, rjoin, rholP, *, ↓reduceIte]; done))
                · intro h235
                  refine wp_iload7 (pc' := 240) rfl rfl ?_
                  refine wp_iload8 (pc' := 242) rfl rfl ?_
                  first | refine wp_iaddN (pc' := 243) rfl (by with_reducible rfl) (by with_reducible rfl) rfl ?_ | refine wp_iadd (pc' := 243) rfl rfl ?_
                  refine wp_goto rfl ?_
                  refine wp_iast _ (pc' := 257) rfl (by first | exact TK.k1 hT rfl | exact TK.kk hT rfl | exact TK.r hT rfl | assumption) (by omega) (by with_reducible rfl) (by omega) (by first | decide | assumption | omega) rfl ?_
                  first | refine wp_iinc5 (w := nI 1) (pc' := 260) rfl rfl rfl (by with_reducible exact nI_add _ _) rfl ?_ | refine wp_iinc5 (w := nI 1) (pc' := 260) rfl rfl rfl rfl rfl ?_
                  refine wp_goto rfl ?_
                  exact WP.cg (ih (i + 1) _ _ _ _ (by omega) (by first | rfl | assumption) (by first | rfl | assumption) (by first | rfl | assumption) (by first | rfl | assumption)) (lC1 (lI1 (by first | with_reducible rfl | (show nI (b0 + i + 1) = nI (b0 + (i + 1)); rfl) | (rw [hsx]; simp +decide only [rstep, *, ↓reduceIte]; done)) (lI1 (by first | with_reducible rfl | (show nI (b0 + i + 1) = nI (b0 + (i + 1)); rfl) | (rw [hsx]; simp +decide only [rstep, *, ↓reduceIte]; done)) (lI1 (by first | with_reducible rfl | (show nI (b0 + i + 1) = nI (b0 + (i + 1)); rfl) | (rw [hsx]; simp +decide only [rstep, *, ↓reduceIte]; done)) (lI1 (by first | with_reducible rfl | (show nI (b0 + i + 1) = nI (b0 + (i + 1)); rfl) | (rw [hsx]; simp +decide only [rstep, *, ↓reduceIte]; done)) (lI1 (by first | with_reducible rfl | (show nI (b0 + i + 1) = nI (b0 + (i + 1)); rfl) | (rw [hsx]; simp +decide only [rstep, *, ↓reduceIte]; done)) (lC1 (lC1 (lC1 (lC1 rfl)))))))))) rfl (by first | exact absurd (h145.symm.trans h235) (by decide) | exact absurd (h167.symm.trans h235) (by decide) | exact absurd (h189.symm.trans h235) (by decide) | exact absurd rfl h248 | exact absurd h248 (by decide) | (rw [hsx, up2_upr]; simp +decide only [upr_same, rstep, rjoin, rholP, *, ↓reduceIte]; done))
              · intro h174
                refine wp_iconst (v := nI 1) (pc' := 178) rfl rfl rfl ?_
                refine wp_goto rfl ?_
                refine wp_istore9 (pc' := 224) rfl (by first | rfl | assumption) rfl ?_
                refine wp_aload0 (pc' := 225) rfl rfl ?_
                refine wp_getRF (pc' := 228) rfl rfl (by first | exact TK.k1 hT rfl | exact TK.kk hT rfl | exact TK.r hT rfl | assumption) (by first | exact TK.k1 hT rfl | exact TK.kk hT rfl | exact TK.r hT rfl | assumption) rfl ?_
                refine wp_iload3 (pc' := 229) rfl rfl ?_
                refine wp_iconst (v := nI 1) (pc' := 230) rfl rfl rfl ?_
                first | refine wp_isubN (pc' := 231) rfl (by with_reducible rfl) (by with_reducible rfl) (by omega) rfl ?_ | refine wp_isub (pc' := 231) rfl rfl ?_
                refine wp_iload6 (pc' := 233) rfl rfl ?_
                refine wp_bipush (v := nI 11) (pc' := 235) rfl rfl rfl ?_
                refine wp_icmpne (pc' := 238) rfl rfl ?_ ?_
                · intro h235
                  refine wp_iload9 (pc' := 248) rfl rfl ?_
                  first | refine wp_ifeqB (pc' := 251) rfl rfl ?_ ?_ | refine wp_ifeq (pc' := 251) rfl rfl ?_ ?_
                  · intro h248
                    refine wp_iconst (v := nI 0) (pc' := 256) rfl rfl rfl ?_
                    refine wp_iast _ (pc' := 257) rfl (by first | exact TK.k1 hT rfl | exact TK.kk hT rfl | exact TK.r hT rfl | assumption) (by omega) (by with_reducible rfl) (by omega) (by first | decide | assumption | omega) rfl ?_
                    first | refine wp_iinc5 (w := nI 1) (pc' := 260) rfl rfl rfl (by with_reducible exact nI_add _ _) rfl ?_ | refine wp_iinc5 (w := nI 1) (pc' := 260) rfl rfl rfl rfl rfl ?_
                    refine wp_goto rfl ?_
                    exact WP.cg (ih (i + 1) _ _ _ _ (by omega) (by first | rfl | assumption) (by first | rfl | assumption) (by first | rfl | assumption) (by first | rfl | assumption)) (lC1 (lI1 (by first | with_reducible rfl | (show nI (b0 + i + 1) = nI (b0 + (i + 1)); rfl) | (rw [hsx]; simp +decide only [rstep, *, ↓reduceIte]; done)) (lI1 (by first | with_reducible rfl | (show nI (b0 + i + 1) = nI (b0 + (i + 1)); rfl) | (rw [hsx]; simp +decide only [rstep, *, ↓reduceIte]; done)) (lI1 (by first | with_reducible rfl | (show nI (b0 + i + 1) = nI (b0 + (i + 1)); rfl) | (rw [hsx]; simp +decide only [rstep, *, ↓reduceIte]; done)) (lI1 (by first | with_reducible rfl | (show nI (b0 + i + 1) = nI (b0 + (i + 1)); rfl) | (rw [hsx]; simp +decide only [rstep, *, ↓reduceIte]; done)) (lI1 (by first | with_reducible rfl | (show nI (b0 + i + 1) = nI (b0 + (i + 1)); rfl) | (rw [hsx]; simp +decide only [rstep, *, ↓reduceIte]; done)) (lC1 (lC1 (lC1 (lC1 rfl)))))))))) rfl (by first | exact absurd (h145.symm.trans h235) (by decide) | exact absurd (h167.symm.trans h235) (by decide) | exact absurd (h189.symm.trans h235) (by decide) | exact absurd rfl h248 | exact absurd h248 (by decide) | (rw [hsx, up2_upr]; simp +decide only [upr_same, rstep, rjoin, rholP, *, ↓reduceIte]; done))
                  · intro h248
                    refine wp_iconst (v := nI 1) (pc' := 252) rfl rfl rfl ?_
                    refine wp_goto rfl ?_
                    refine wp_iast _ (pc' := 257) rfl (by first | exact TK.k1 hT rfl | exact TK.kk hT rfl | exact TK.r hT rfl | assumption) (by omega) (by with_reducible rfl) (by omega) (by first | decide | assumption | omega) rfl ?_
                    first | refine wp_iinc5 (w := nI 1) (pc' := 260) rfl rfl rfl (by with_reducible exact nI_add _ _) rfl ?_ | refine wp_iinc5 (w := nI 1) (pc' := 260) rfl rfl rfl rfl rfl ?_
                    refine wp_goto rfl ?_
                    exact WP.cg (ih (i + 1) _ _ _ _ (by omega) (by first | rfl | assumption) (by first | rfl | assumption) (by first | rfl | assumption) (by first | rfl | assumption)) (lC1 (lI1 (by first | with_reducible rfl | (show nI (b0 + i + 1) = nI (b0 + (i + 1)); rfl) | (rw [hsx]; simp +decide only [rstep, *, ↓reduceIte]; done)) (lI1 (by first | with_reducible rfl | (show nI (b0 + i + 1) = nI (b0 + (i + 1)); rfl) | (rw [hsx]; simp +decide only [rstep, *, ↓reduceIte]; done)) (lI1 (by first | with_reducible rfl | (show nI (b0 + i + 1) = nI (b0 + (i + 1)); rfl) | (rw [hsx]; simp +decide only [rstep, *, ↓reduceIte]; done)) (lI1 (by first | with_reducible rfl | (show nI (b0 + i + 1) = nI (b0 + (i + 1)); rfl) | (rw [hsx]; simp +decide only [rstep, *, ↓reduceIte]; done)) (lI1 (by first | with_reducible rfl | (show nI (b0 + i + 1) = nI (b0 + (i + 1)); rfl) | (rw [hsx]; simp +decide only [rstep, *, ↓reduceIte]; done)) (lC1 (lC1 (lC1 (lC1 rfl)))))))))) rfl (by first | exact absurd (h145.symm.trans h235) (by decide) | exact absurd (h167.symm.trans h235) (by decide) | exact absurd (h189.symm.trans h235) (by decide) | exact absurd rfl h248 | exact absurd h248 (by decide) | (rw [hsx, up2_upr]; simp +decide only [upr_same, rstep, rjoin, rholP, *, ↓reduceIte]; done))
                · intro h235
                  refine wp_iload7 (pc' := 240) rfl rfl ?_
                  refine wp_iload8 (pc' := 242) rfl rfl ?_
                  first | refine wp_iaddN (pc' := 243) rfl (by with_reducible rfl) (by with_reducible rfl) rfl ?_ | refine wp_iadd (pc' := 243) rfl rfl ?_
                  refine wp_goto rfl ?_
                  refine wp_iast _ (pc' := 257) rfl (by first | exact TK.k1 hT rfl | exact TK.kk hT rfl | exact TK.r hT rfl | assumption) (by omega) (by with_reducible rfl) (by omega) (by first | decide | assumption | omega) rfl ?_
                  first | refine wp_iinc5 (w := nI 1) (pc' := 260) rfl rfl rfl (by with_reducible exact nI_add _ _) rfl ?_ | refine wp_iinc5 (w := nI 1) (pc' := 260) rfl rfl rfl rfl rfl ?_
                  refine wp_goto rfl ?_
                  exact WP.cg (ih (i + 1) _ _ _ _ (by omega) (by first | rfl | assumption) (by first | rfl | assumption) (by first | rfl | assumption) (by first | rfl | assumption)) (lC1 (lI1 (by first | with_reducible rfl | (show nI (b0 + i + 1) = nI (b0 + (i + 1)); rfl) | (rw [hsx]; simp +decide only [rstep, *, ↓reduceIte]; done)) (lI1 (by first | with_reducible rfl | (show nI (b0 + i + 1) = nI (b0 + (i + 1)); rfl) | (rw [hsx]; simp +decide only [rstep, *, ↓reduceIte]; done)) (lI1 (by first | with_reducible rfl | (show nI (b0 + i + 1) = nI (b0 + (i + 1)); rfl) | (rw [hsx]; simp +decide only [rstep, *, ↓reduceIte]; done)) (lI1 (by first | with_reducible rfl | (show nI (b0 + i + 1) = nI (b0 + (i + 1)); rfl) | (rw [hsx]; simp +decide only [rstep, *, ↓reduceIte]; done)) (lI1 (by first | with_reducible rfl | (show nI (b0 + i + 1) = nI (b0 + (i + 1)); rfl) | (rw [hsx]; simp +decide only [rstep, *, ↓reduceIte]; done)) (lC1 (lC1 (lC1 (lC1 rfl)))))))))) rfl (by first | exact absurd (h145.symm.trans h235) (by decide) | exact absurd (h167.symm.trans h235) (by decide) | exact absurd (h189.symm.trans h235) (by decide) | exact absurd rfl h248 | exact absurd h248 (by decide) | (rw [hsx, up2_upr]; simp +decide only [upr_same, rstep, rjoin, rholP, *, ↓reduceIte]; done))
          · intro h145
            refine wp_iload7 (pc' := 150) rfl rfl ?_
            refine wp_iload8 (pc' := 152) rfl rfl ?_
            refine wp_icmpge (pc' := 155) rfl rfl ?_ ?_
            · intro h152
              refine wp_iconst (v := nI 0) (pc' := 160) rfl rfl rfl ?_
              refine wp_goto rfl ?_
              refine wp_istore9 (pc' := 224) rfl (by first | rfl | assumption) rfl ?_
              refine wp_aload0 (pc' := 225) rfl rfl ?_
              refine wp_getRF (pc' := 228) rfl rfl (by first | exact TK.k1 hT rfl | exact TK.kk hT rfl | exact TK.r hT rfl | assumption) (by first | exact TK.k1 hT rfl | exact TK.kk hT rfl | exact TK.r hT rfl | assumption) rfl ?_
              refine wp_iload3 (pc' := 229) rfl rfl ?_
              refine wp_iconst (v := nI 1) (pc' := 230) rfl rfl rfl ?_
              first | refine wp_isubN (pc' := 231) rfl (by with_reducible rfl) (by with_reducible rfl) (by omega) rfl ?_ | refine wp_isub (pc' := 231) rfl rfl ?_
              refine wp_iload6 (pc' := 233) rfl rfl ?_
              refine wp_bipush (v := nI 11) (pc' := 235) rfl rfl rfl ?_
              refine wp_icmpne (pc' := 238) rfl rfl ?_ ?_
              · intro h235
                refine wp_iload9 (pc' := 248) rfl rfl ?_
                first | refine wp_ifeqB (pc' := 251) rfl rfl ?_ ?_ | refine wp_ifeq (pc' := 251) rfl rfl ?_ ?_
                · intro h248
                  refine wp_iconst (v := nI 0) (pc' := 256) rfl rfl rfl ?_
                  refine wp_iast _ (pc' := 257) rfl (by first | exact TK.k1 hT rfl | exact TK.kk hT rfl | exact TK.r hT rfl | assumption) (by omega) (by with_reducible rfl) (by omega) (by first | decide | assumption | omega) rfl ?_
                  first | refine wp_iinc5 (w := nI 1) (pc' := 260) rfl rfl rfl (by with_reducible exact nI_add _ _) rfl ?_ | refine wp_iinc5 (w := nI 1) (pc' := 260) rfl rfl rfl rfl rfl ?_
                  refine wp_goto rfl ?_
                  exact WP.cg (ih (i + 1) _ _ _ _ (by omega) (by first | rfl | assumption) (by first | rfl | assumption) (by first | rfl | assumption) (by first | rfl | assumption)) (lC1 (lI1 (by first | with_reducible rfl | (show nI (b0 + i + 1) = nI (b0 + (i + 1)); rfl) | (rw [hsx]; simp +decide only [rstep, *, ↓reduceIte]; done)) (lI1 (by first | with_reducible rfl | (show nI (b0 + i + 1) = nI (b0 + (i + 1)); rfl) | (rw [hsx]; simp +decide only [rstep, *, ↓reduceIte]; done)) (lI1 (by first | with_reducible rfl | (show nI (b0 + i + 1) = nI (b0 + (i + 1)); rfl) | (rw [hsx]; simp +decide only [rstep, *, ↓reduceIte]; done)) (lI1 (by first | with_reducible rfl | (show nI (b0 + i + 1) = nI (b0 + (i + 1)); rfl) | (rw [hsx]; simp +decide only [rstep, *, ↓reduceIte]; done)) (lI1 (by first | with_reducible rfl | (show nI (b0 + i + 1) = nI (b0 + (i + 1)); rfl) | (rw [hsx]; simp +decide only [rstep, *, ↓reduceIte]; done)) (lC1 (lC1 (lC1 (lC1 rfl)))))))))) rfl (by first | exact absurd (h145.symm.trans h235) (by decide) | exact absurd (h167.symm.trans h235) (by decide) | exact absurd (h189.symm.trans h235) (by decide) | exact absurd rfl h248 | exact absurd h248 (by decide) | (rw [hsx, up2_upr]; simp +decide only [upr_same, rstep, rjoin, rholP, *, ↓reduceIte]; done))
                · intro h248
                  refine wp_iconst (v := nI 1) (pc' := 252) rfl rfl rfl ?_
                  refine wp_goto rfl ?_
                  refine wp_iast _ (pc' := 257) rfl (by first | exact TK.k1 hT rfl | exact TK.kk hT rfl | exact TK.r hT rfl | assumption) (by omega) (by with_reducible rfl) (by omega) (by first | decide | assumption | omega) rfl ?_
                  first | refine wp_iinc5 (w := nI 1) (pc' := 260) rfl rfl rfl (by with_reducible exact nI_add _ _) rfl ?_ | refine wp_iinc5 (w := nI 1) (pc' := 260) rfl rfl rfl rfl rfl ?_
                  refine wp_goto rfl ?_
                  exact WP.cg (ih (i + 1) _ _ _ _ (by omega) (by first | rfl | assumption) (by first | rfl | assumption) (by first | rfl | assumption) (by first | rfl | assumption)) (lC1 (lI1 (by first | with_reducible rfl | (show nI (b0 + i + 1) = nI (b0 + (i + 1)); rfl) | (rw [hsx]; simp +decide only [rstep, *, ↓reduceIte]; done)) (lI1 (by first | with_reducible rfl | (show nI (b0 + i + 1) = nI (b0 + (i + 1)); rfl) | (rw [hsx]; simp +decide only [rstep, *, ↓reduceIte]; done)) (lI1 (by first | with_reducible rfl | (show nI (b0 + i + 1) = nI (b0 + (i + 1)); rfl) | (rw [hsx]; simp +decide only [rstep, *, ↓reduceIte]; done)) (lI1 (by first | with_reducible rfl | (show nI (b0 + i + 1) = nI (b0 + (i + 1)); rfl) | (rw [hsx]; simp +decide only [rstep, *, ↓reduceIte]; done)) (lI1 (by first | with_reducible rfl | (show nI (b0 + i + 1) = nI (b0 + (i + 1)); rfl) | (rw [hsx]; simp +decide only [rstep, *, ↓reduceIte]; done)) (lC1 (lC1 (lC1 (lC1 rfl)))))))))) rfl (by first | exact absurd (h145.symm.trans h235) (by decide) | exact absurd (h167.symm.trans h235) (by decide) | exact absurd (h189.symm.trans h235) (by decide) | exact absurd rfl h248 | exact absurd h248 (by decide) | (rw [hsx, up2_upr]; simp +decide only [upr_same, rstep, rjoin, rholP, *, ↓reduceIte]; done))
              · intro h235
                refine wp_iload7 (pc' := 240) rfl rfl ?_
                refine wp_iload8 (pc' := 242) rfl rfl ?_
                first | refine wp_iaddN (pc' := 243) rfl (by with_reducible rfl) (by with_reducible rfl) rfl ?_ | refine wp_iadd (pc' := 243) rfl rfl ?_
                refine wp_goto rfl ?_
                refine wp_iast _ (pc' := 257) rfl (by first | exact TK.k1 hT rfl | exact TK.kk hT rfl | exact TK.r hT rfl | assumption) (by omega) (by with_reducible rfl) (by omega) (by first | decide | assumption | omega) rfl ?_
                first | refine wp_iinc5 (w := nI 1) (pc' := 260) rfl rfl rfl (by with_reducible exact nI_add _ _) rfl ?_ | refine wp_iinc5 (w := nI 1) (pc' := 260) rfl rfl rfl rfl rfl ?_
                refine wp_goto rfl ?_
                exact WP.cg (ih (i + 1) _ _ _ _ (by omega) (by first | rfl | assumption) (by first | rfl | assumption) (by first | rfl | assumption) (by first | rfl | assumption)) (lC1 (lI1 (by first | with_reducible rfl | (show nI (b0 + i + 1) = nI (b0 + (i + 1)); rfl) | (rw [hsx]; simp +decide only [rstep, *, ↓reduceIte]; done)) (lI1 (by first | with_reducible rfl | (show nI (b0 + i + 1) = nI (b0 + (i + 1)); rfl) | (rw [hsx]; simp +decide only [rstep, *, ↓reduceIte]; done)) (lI1 (by first | with_reducible rfl | (show nI (b0 + i + 1) = nI (b0 + (i + 1)); rfl) | (rw [hsx]; simp +decide only [rstep, *, ↓reduceIte]; done)) (lI1 (by first | with_reducible rfl | (show nI (b0 + i + 1) = nI (b0 + (i + 1)); rfl) | (rw [hsx]; simp +decide only [rstep, *, ↓reduceIte]; done)) (lI1 (by first | with_reducible rfl | (show nI (b0 + i + 1) = nI (b0 + (i + 1)); rfl) | (rw [hsx]; simp +decide only [rstep, *, ↓reduceIte]; done)) (lC1 (lC1 (lC1 (lC1 rfl)))))))))) rfl (by first | exact absurd (h145.symm.trans h235) (by decide) | exact absurd (h167.symm.trans h235) (by decide) | exact absurd (h189.symm.trans h235) (by decide) | exact absurd rfl h248 | exact absurd h248 (by decide) | (rw [hsx, up2_upr]; simp +decide only [upr_same, rstep, rjoin, rholP, *, ↓reduceIte]; done))
            · intro h152
              refine wp_iconst (v := nI 1) (pc' := 156) rfl rfl rfl ?_
              refine wp_goto rfl ?_
              refine wp_istore9 (pc' := 224) rfl (by first | rfl | assumption) rfl ?_
              refine wp_aload0 (pc' := 225) rfl rfl ?_
              refine wp_getRF (pc' := 228) rfl rfl (by first | exact TK.k1 hT rfl | exact TK.kk hT rfl | exact TK.r hT rfl | assumption) (by first | exact TK.k1 hT rfl | exact TK.kk hT rfl | exact TK.r hT rfl | assumption) rfl ?_
              refine wp_iload3 (pc' := 229) rfl rfl ?_
              refine wp_iconst (v := nI 1) (pc' := 230) rfl rfl rfl ?_
              first | refine wp_isubN (pc' := 231) rfl (by with_reducible rfl) (by with_reducible rfl) (by omega) rfl ?_ | refine wp_isub (pc' := 231) rfl rfl ?_
              refine wp_iload6 (pc' := 233) rfl rfl ?_
              refine wp_bipush (v := nI 11) (pc' := 235) rfl rfl rfl ?_
              refine wp_icmpne (pc' := 238) rfl rfl ?_ ?_
              · intro h235
                refine wp_iload9 (pc' := 248) rfl rfl ?_
                first | refine wp_ifeqB (pc' := 251) rfl rfl ?_ ?_ | refine wp_ifeq (pc' := 251) rfl rfl ?_ ?_
                · intro h248
                  refine wp_iconst (v := nI 0) (pc' := 256) rfl rfl rfl ?_
                  refine wp_iast _ (pc' := 257) rfl (by first | exact TK.k1 hT rfl | exact TK.kk hT rfl | exact TK.r hT rfl | assumption) (by omega) (by with_reducible rfl) (by omega) (by first | decide | assumption | omega) rfl ?_
                  first | refine wp_iinc5 (w := nI 1) (pc' := 260) rfl rfl rfl (by with_reducible exact nI_add _ _) rfl ?_ | refine wp_iinc5 (w := nI 1) (pc' := 260) rfl rfl rfl rfl rfl ?_
                  refine wp_goto rfl ?_
                  exact WP.cg (ih (i + 1) _ _ _ _ (by omega) (by first | rfl | assumption) (by first | rfl | assumption) (by first | rfl | assumption) (by first | rfl | assumption)) (lC1 (lI1 (by first | with_reducible rfl | (show nI (b0 + i + 1) = nI (b0 + (i + 1)); rfl) | (rw [hsx]; simp +decide only [rstep, *, ↓reduceIte]; done)) (lI1 (by first | with_reducible rfl | (show nI (b0 + i + 1) = nI (b0 + (i + 1)); rfl) | (rw [hsx]; simp +decide only [rstep, *, ↓reduceIte]; done)) (lI1 (by first | with_reducible rfl | (show nI (b0 + i + 1) = nI (b0 + (i + 1)); rfl) | (rw [hsx]; simp +decide only [rstep, *, ↓reduceIte]; done)) (lI1 (by first | with_reducible rfl | (show nI (b0 + i + 1) = nI (b0 + (i + 1)); rfl) | (rw [hsx]; simp +decide only [rstep, *, ↓reduceIte]; done)) (lI1 (by first | with_reducible rfl | (show nI (b0 + i + 1) = nI (b0 + (i + 1)); rfl) | (rw [hsx]; simp +decide only [rstep, *, ↓reduceIte]; done)) (lC1 (lC1 (lC1 (lC1 rfl)))))))))) rfl (by first | exact absurd (h145.symm.trans h235) (by decide) | exact absurd (h167.symm.trans h235) (by decide) | exact absurd (h189.symm.trans h235) (by decide) | exact absurd rfl h248 | exact absurd h248 (by decide) | (rw [hsx, up2_upr]; simp +decide only [upr_same, rstep, rjoin, rholP, *, ↓reduceIte]; done))
                · intro h248
                  refine wp_iconst (v := nI 1) (pc' := 252) rfl rfl rfl ?_
                  refine wp_goto rfl ?_
                  refine wp_iast _ (pc' := 257) rfl (by first | exact TK.k1 hT rfl | exact TK.kk hT rfl | exact TK.r hT rfl | assumption) (by omega) (by with_reducible rfl) (by omega) (by first | decide | assumption | omega) rfl ?_
                  first | refine wp_iinc5 (w := nI 1) (pc' := 260) rfl rfl rfl (by with_reducible exact nI_add _ _) rfl ?_ | refine wp_iinc5 (w := nI 1) (pc' := 260) rfl rfl rfl rfl rfl ?_
                  refine wp_goto rfl ?_
                  exact WP.cg (ih (i + 1) _ _ _ _ (by omega) (by first | rfl | assumption) (by first | rfl | assumption) (by first | rfl | assumption) (by first | rfl | assumption)) (lC1 (lI1 (by first | with_reducible rfl | (show nI (b0 + i + 1) = nI (b0 + (i + 1)); rfl) | (rw [hsx]; simp +decide only [rstep, *, ↓reduceIte]; done)) (lI1 (by first | with_reducible rfl | (show nI (b0 + i + 1) = nI (b0 + (i + 1)); rfl) | (rw [hsx]; simp +decide only [rstep, *, ↓reduceIte]; done)) (lI1 (by first | with_reducible rfl | (show nI (b0 + i + 1) = nI (b0 + (i + 1)); rfl) | (rw [hsx]; simp +decide only [rstep, *, ↓reduceIte]; done)) (lI1 (by first | with_reducible rfl | (show nI (b0 + i + 1) = nI (b0 + (i + 1)); rfl) | (rw [hsx]; simp +decide only [rstep, *, ↓reduceIte]; done)) (lI1 (by first | with_reducible rfl | (show nI (b0 + i + 1) = nI (b0 + (i + 1)); rfl) | (rw [hsx]; simp +decide only [rstep, *, ↓reduceIte]; done)) (lC1 (lC1 (lC1 (lC1 rfl)))))))))) rfl (by first | exact absurd (h145.symm.trans h235) (by decide) | exact absurd (h167.symm.trans h235) (by decide) | exact absurd (h189.symm.trans h235) (by decide) | exact absurd rfl h248 | exact absurd h248 (by decide) | (rw [hsx, up2_upr]; simp +decide only [upr_same, rstep, rjoin, rholP, *, ↓reduceIte]; done))
              · intro h235
                refine wp_iload7 (pc' := 240) rfl rfl ?_
                refine wp_iload8 (pc' := 242) rfl rfl ?_
                first | refine wp_iaddN (pc' := 243) rfl (by with_reducible rfl) (by with_reducible rfl) rfl ?_ | refine wp_iadd (pc' := 243) rfl rfl ?_
                refine wp_goto rfl ?_
                refine wp_iast _ (pc' := 257) rfl (by first | exact TK.k1 hT rfl | exact TK.kk hT rfl | exact TK.r hT rfl | assumption) (by omega) (by with_reducible rfl) (by omega) (by first | decide | assumption | omega) rfl ?_
                first | refine wp_iinc5 (w := nI 1) (pc' := 260) rfl rfl rfl (by with_reducible exact nI_add _ _) rfl ?_ | refine wp_iinc5 (w := nI 1) (pc' := 260) rfl rfl rfl rfl rfl ?_
                refine wp_goto rfl ?_
                exact WP.cg (ih (i + 1) _ _ _ _ (by omega) (by first | rfl | assumption) (by first | rfl | assumption) (by first | rfl | assumption) (by first | rfl | assumption)) (lC1 (lI1 (by first | with_reducible rfl | (show nI (b0 + i + 1) = nI (b0 + (i + 1)); rfl) | (rw [hsx]; simp +decide only [rstep, *, ↓reduceIte]; done)) (lI1 (by first | with_reducible rfl | (show nI (b0 + i + 1) = nI (b0 + (i + 1)); rfl) | (rw [hsx]; simp +decide only [rstep, *, ↓reduceIte]; done)) (lI1 (by first | with_reducible rfl | (show nI (b0 + i + 1) = nI (b0 + (i + 1)); rfl) | (rw [hsx]; simp +decide only [rstep, *, ↓reduceIte]; done)) (lI1 (by first | with_reducible rfl | (show nI (b0 + i + 1) = nI (b0 + (i + 1)); rfl) | (rw [hsx]; simp +decide only [rstep, *, ↓reduceIte]; done)) (lI1 (by first | with_reducible rfl | (show nI (b0 + i + 1) = nI (b0 + (i + 1)); rfl) | (rw [hsx]; simp +decide only [rstep, *, ↓reduceIte]; done)) (lC1 (lC1 (lC1 (lC1 rfl)))))))))) rfl (by first | exact absurd (h145.symm.trans h235) (by decide) | exact absurd (h167.symm.trans h235) (by decide) | exact absurd (h189.symm.trans h235) (by decide) | exact absurd rfl h248 | exact absurd h248 (by decide) | (rw [hsx, up2_upr]; simp +decide only [upr_same, rstep, rjoin, rholP, *, ↓reduceIte]; done))
        · intro h96
          have hd1 := (hok h55).1 h96
          refine wp_aload0 (pc' := 100) rfl rfl ?_
          refine wp_getRF (pc' := 103) rfl rfl (by first | exact TK.k1 hT rfl | exact TK.kk hT rfl | exact TK.r hT rfl | assumption) (by first | exact TK.k1 hT rfl | exact TK.kk hT rfl | exact TK.r hT rfl | assumption) rfl ?_
          refine wp_iload3 (pc' := 104) rfl rfl ?_
          refine wp_iconst (v := nI 1) (pc' := 105) rfl rfl rfl ?_
          first | refine wp_isubN (pc' := 106) rfl (by with_reducible rfl) (by with_reducible rfl) (by omega) rfl ?_ | refine wp_isub (pc' := 106) rfl rfl ?_
          refine wp_iconst (v := nI 1) (pc' := 107) rfl rfl rfl ?_
          refine wp_aload0 (pc' := 108) rfl rfl ?_
          refine wp_getRF (pc' := 111) rfl rfl (by first | exact TK.k1 hT rfl | exact TK.kk hT rfl | exact TK.r hT rfl | assumption) (by first | exact TK.k1 hT rfl | exact TK.kk hT rfl | exact TK.r hT rfl | assumption) rfl ?_
          refine wp_iload3 (pc' := 112) rfl rfl ?_
          refine wp_iconst (v := nI 1) (pc' := 113) rfl rfl rfl ?_
          first | refine wp_isubN (pc' := 114) rfl (by with_reducible rfl) (by with_reducible rfl) (by omega) rfl ?_ | refine wp_isub (pc' := 114) rfl rfl ?_
          refine wp_iald _ (pc' := 115) rfl (by first | exact TK.k1 hT rfl | exact TK.kk hT rfl | exact TK.r hT rfl | assumption) (by with_reducible rfl) (by omega) (by first | decide | assumption | omega) rfl ?_
          first | refine wp_isubN (pc' := 116) rfl (by with_reducible rfl) (by with_reducible rfl) (by omega) rfl ?_ | refine wp_isub (pc' := 116) rfl rfl ?_
          refine wp_iast _ (pc' := 117) rfl (by first | exact TK.k1 hT rfl | exact TK.kk hT rfl | exact TK.r hT rfl | assumption) (by omega) (by with_reducible rfl) (by omega) (by first | decide | assumption | omega) rfl ?_
          refine wp_goto rfl ?_
          first | refine wp_iinc5 (w := nI 1) (pc' := 260) rfl rfl rfl (by with_reducible exact nI_add _ _) rfl ?_ | refine wp_iinc5 (w := nI 1) (pc' := 260) rfl rfl rfl rfl rfl ?_
          refine wp_goto rfl ?_
          exact WP.cg (ih (i + 1) _ _ _ _ (by omega) (by first | rfl | assumption) (by first | rfl | assumption) (by first | rfl | assumption) (by first | rfl | assumption)) (lC1 (lI1 (by first | with_reducible rfl | (show nI (b0 + i + 1) = nI (b0 + (i + 1)); rfl) | (rw [hsx]; simp +decide only [rstep, *, ↓reduceIte]; done)) (lI1 (by first | with_reducible rfl | (show nI (b0 + i + 1) = nI (b0 + (i + 1)); rfl) | (rw [hsx]; simp +decide only [rstep, *, ↓reduceIte]; done)) (lI1 (by first | with_reducible rfl | (show nI (b0 + i + 1) = nI (b0 + (i + 1)); rfl) | (rw [hsx]; simp +decide only [rstep, *, ↓reduceIte]; done)) (lI1 (by first | with_reducible rfl | (show nI (b0 + i + 1) = nI (b0 + (i + 1)); rfl) | (rw [hsx]; simp +decide only [rstep, *, ↓reduceIte]; done)) (lI1 (by first | with_reducible rfl | (show nI (b0 + i + 1) = nI (b0 + (i + 1)); rfl) | (rw [hsx]; simp +decide only [rstep, *, ↓reduceIte]; done)) (lC1 (lC1 (lC1 (lC1 rfl)))))))))) rfl (by first | exact absurd (h145.symm.trans h235) (by decide) | exact absurd (h167.symm.trans h235) (by decide) | exact absurd (h189.symm.trans h235) (by decide) | exact absurd rfl h248 | exact absurd h248 (by decide) | (rw [hsx, up2_upr]; simp +decide only [upr_same, rstep, rjoin, rholP, *, ↓reduceIte]; done))
      · intro h55
        refine wp_aload0 (pc' := 59) rfl rfl ?_
        refine wp_getRF (pc' := 62) rfl rfl (by first | exact TK.k1 hT rfl | exact TK.kk hT rfl | exact TK.r hT rfl | assumption) (by first | exact TK.k1 hT rfl | exact TK.kk hT rfl | exact TK.r hT rfl | assumption) rfl ?_
        refine wp_iload3 (pc' := 63) rfl rfl ?_
        refine wp_aload0 (pc' := 64) rfl rfl ?_
        refine wp_iload6 (pc' := 66) rfl rfl ?_
        refine wp_aload0 (pc' := 67) rfl rfl ?_
        refine wp_getRF (pc' := 70) rfl rfl (by first | exact TK.k1 hT rfl | exact TK.kk hT rfl | exact TK.r hT rfl | assumption) (by first | exact TK.k1 hT rfl | exact TK.kk hT rfl | exact TK.r hT rfl | assumption) rfl ?_
        refine wp_sipush (v := nI 532) (pc' := 73) rfl rfl rfl ?_
        refine wp_iconst (v := nI 2) (pc' := 74) rfl rfl rfl ?_
        refine wp_iload5 (pc' := 76) rfl rfl ?_
        first | refine wp_imulN (pc' := 77) rfl (by with_reducible rfl) (by with_reducible rfl) rfl ?_ | refine wp_imul (pc' := 77) rfl rfl ?_
        first | refine wp_iaddN (pc' := 78) rfl (by with_reducible rfl) (by with_reducible rfl) rfl ?_ | refine wp_iadd (pc' := 78) rfl rfl ?_
        refine wp_iconst (v := nI 1) (pc' := 79) rfl rfl rfl ?_
        first | refine wp_iaddN (pc' := 80) rfl (by with_reducible rfl) (by with_reducible rfl) rfl ?_ | refine wp_iadd (pc' := 80) rfl rfl ?_
        refine wp_iald _ (pc' := 81) rfl (by first | exact TK.k1 hT rfl | exact TK.kk hT rfl | exact TK.r hT rfl | assumption) (by with_reducible rfl) (by omega) (by first | decide | assumption | omega) rfl ?_
        rw [upr_ne (show (319 : Nat) ≠ 326 by decide)]
        refine wp_iload2 (pc' := 82) rfl rfl ?_
        refine wp_callV4 (pc' := 85) rfl rfl rfl rfl rfl (by first | exact TK.k1 hT rfl | exact TK.kk hT rfl | exact TK.r hT rfl | assumption) rfl rfl ?_
        refine m_factOf hT hc ?_
        rw [upr_ne (show (319 : Nat) ≠ 326 by decide)]
        refine Cont.v ?_
        refine wp_iast _ (pc' := 86) rfl (by first | exact TK.k1 hT rfl | exact TK.kk hT rfl | exact TK.r hT rfl | assumption) (by omega) (by with_reducible rfl) (by omega) (by first | decide | assumption | omega) rfl ?_
        first | refine wp_iinc3 (w := nI 1) (pc' := 89) rfl rfl rfl (by with_reducible exact nI_add _ _) rfl ?_ | refine wp_iinc3 (w := nI 1) (pc' := 89) rfl rfl rfl rfl rfl ?_
        refine wp_goto rfl ?_
        first | refine wp_iinc5 (w := nI 1) (pc' := 260) rfl rfl rfl (by with_reducible exact nI_add _ _) rfl ?_ | refine wp_iinc5 (w := nI 1) (pc' := 260) rfl rfl rfl rfl rfl ?_
        refine wp_goto rfl ?_
        exact WP.cg (ih (i + 1) _ _ _ _ (by omega) (by first | rfl | assumption) (by first | rfl | assumption) (by first | rfl | assumption) (by first | rfl | assumption)) (lC1 (lI1 (by first | with_reducible rfl | (show nI (b0 + i + 1) = nI (b0 + (i + 1)); rfl) | (rw [hsx]; simp +decide only [rstep, *, ↓reduceIte]; done)) (lI1 (by first | with_reducible rfl | (show nI (b0 + i + 1) = nI (b0 + (i + 1)); rfl) | (rw [hsx]; simp +decide only [rstep, *, ↓reduceIte]; done)) (lI1 (by first | with_reducible rfl | (show nI (b0 + i + 1) = nI (b0 + (i + 1)); rfl) | (rw [hsx]; simp +decide only [rstep, *, ↓reduceIte]; done)) (lI1 (by first | with_reducible rfl | (show nI (b0 + i + 1) = nI (b0 + (i + 1)); rfl) | (rw [hsx]; simp +decide only [rstep, *, ↓reduceIte]; done)) (lI1 (by first | with_reducible rfl | (show nI (b0 + i + 1) = nI (b0 + (i + 1)); rfl) | (rw [hsx]; simp +decide only [rstep, *, ↓reduceIte]; done)) (lC1 (lC1 (lC1 (lC1 rfl)))))))))) rfl (by first | exact absurd (h145.symm.trans h235) (by decide) | exact absurd (h167.symm.trans h235) (by decide) | exact absurd (h189.symm.trans h235) (by decide) | exact absurd rfl h248 | exact absurd h248 (by decide) | (rw [hsx, up2_upr]; simp +decide only [upr_same, rstep, rjoin, rholP, *, ↓reduceIte]; done))
  exact WP.cg (lp22 ((b1 - b0) - (0)) (0) _ _ _ _ (by omega) (by first | rfl | assumption) (by first | rfl | assumption) (by first | rfl | assumption) (by first | rfl | assumption)) (lC1 (lI1 (by rfl) (lI1 (by rfl) (lI1 (by rfl) (lI1 (by rfl) (lI1 (by rfl) (lC1 (lC1 (lC1 (lC1 rfl)))))))))) rfl (by (show (K, I, L, R, n, s) = (K, upr I 326 (I 326), L, R, n, s); rw [upr_id]))

/-- a law's text in the world: m lines, each from bg to the next one's bg -/
def LwW (w : Nat → Int32) (m : Nat) (b0 b1 : Nat → Nat) : Prop := w 483 = nI m ∧ m ≤ 12 ∧ ∀ l, l < m → w (484 + 4 * l + 2) = nI (b0 l) ∧ w (484 + 4 * l + 3) = nI (b1 l) ∧ b0 l ≤ b1 l ∧ b1 l ≤ 400 ∧ LnOk w (b0 l) (b1 l - b0 l)
def rtst (w : Nat → Int32) (c : Nat) (kd : Int32) (b0 b1 : Nat → Nat) (l : Nat) (p : Int32 × (Nat → Int32)) : Int32 × (Nat → Int32) :=
  if w (484 + 4 * l) = kd then (if rhldP w c p.2 (b0 l) (b1 l - b0 l) then p.1 + w (484 + 4 * l + 1) else p.1, (rrun w c p.2 (b0 l) (b1 l - b0 l)).2) else p
def rtot (w : Nat → Int32) (c : Nat) (kd : Int32) (b0 b1 : Nat → Nat) (v : Nat → Int32) (m : Nat) : Int32 × (Nat → Int32) := forN (fun l p => rtst w c kd b0 b1 l p) (nI 0, v) m

theorem m_sumOf1 {d : Nat} {K : Nat → Nat × Nat} {I : Nat → Nat → Int32} {L : Nat → Nat → Int64} {R : Nat → Nat → Option Nat} {n s : Nat} {Q : Lo → Lm → Prop} {m c : Nat} {xk : Int32} {b0 b1 : Nat → Nat} (hT : TK K R n) (hc : c < 25) (hw2 : I 319 2 = nI 1) (hlw : LwW (I 319) m b0 b1) (kk : Q (.inl (some (.int ((rtot (I 319) c xk b0 b1 (I 326) m).1)))) (K, upr I 326 (rtot (I 319) c xk b0 b1 (I 326) m).2, L, R, n, s)) : Ok (d + 7) 267 [.ref 318, .int xk, .int (nI c)] (K, I, L, R, n, s) Q := by
  obtain ⟨-, -, hn⟩ := id hT
  have hm12 := hlw.2.1
  refine Ok.enter (F := F_267) (ls := [.ref 318, .int xk, .int (nI c), lDead, lDead]) rfl rfl ?_
  refine wp_iconst (v := nI 0) (pc' := 1) rfl rfl rfl ?_
  refine wp_istore3 (pc' := 2) rfl (by first | rfl | assumption) rfl ?_
  refine wp_iconst (v := nI 0) (pc' := 3) rfl rfl rfl ?_
  refine wp_istore4 (pc' := 5) rfl (by first | rfl | assumption) rfl ?_
  have lp5 : ∀ r (i : Nat), i + r = m → WP (d + 6) F_267 5 [.ref 318, .int xk, .int (nI c), .int (rtot (I 319) c xk b0 b1 (I 326) i).1, .int (nI i)] [] (K, upr I 326 (rtot (I 319) c xk b0 b1 (I 326) i).2, L, R, n, s) Q := by
    intro r; induction r with
    | zero =>
      intro i hi 
      have hi2 : i = m := by omega
      subst hi2
      refine wp_aload0 (pc' := 6) rfl rfl ?_
      refine wp_getRF (pc' := 9) rfl rfl (by first | exact TK.k1 hT rfl | exact TK.kk hT rfl | exact TK.r hT rfl | assumption) (by first | exact TK.k1 hT rfl | exact TK.kk hT rfl | exact TK.r hT rfl | assumption) rfl ?_
      refine wp_iconst (v := nI 2) (pc' := 10) rfl rfl rfl ?_
      refine wp_iald _ (pc' := 11) rfl (by first | exact TK.k1 hT rfl | exact TK.kk hT rfl | exact TK.r hT rfl | assumption) (by with_reducible rfl) (by omega) (by first | decide | assumption | omega) rfl ?_
      refine wp_iconst (v := nI 1) (pc' := 12) rfl rfl rfl ?_
      refine wp_icmpneF (pc' := 15) rfl (by rw [upr_ne (show (319 : Nat) ≠ 326 by decide)]; exact hw2) rfl ?_
      refine wp_iload4 (pc' := 17) rfl rfl ?_
      refine wp_aload0 (pc' := 18) rfl rfl ?_
      refine wp_getRF (pc' := 21) rfl rfl (by first | exact TK.k1 hT rfl | exact TK.kk hT rfl | exact TK.r hT rfl | assumption) (by first | exact TK.k1 hT rfl | exact TK.kk hT rfl | exact TK.r hT rfl | assumption) rfl ?_
      refine wp_sipush (v := nI 483) (pc' := 24) rfl rfl rfl ?_
      refine wp_iald _ (pc' := 25) rfl (by first | exact TK.k1 hT rfl | exact TK.kk hT rfl | exact TK.r hT rfl | assumption) (by with_reducible rfl) (by omega) (by first | decide | assumption | omega) rfl ?_
      refine wp_icmpgeT rfl (by rw [upr_ne (show (319 : Nat) ≠ 326 by decide), hlw.1]; exact nI_nlt (by omega) (by omega)) ?_
      refine wp_iload3 (pc' := 80) rfl rfl ?_
      refine wp_iret rfl rfl rfl ?_
      exact kk
    | succ r ih =>
      intro i hi 
      have hlt : i < m := by omega
      have hl1 := hlw.2.2 i (by omega)
      obtain ⟨p, hp⟩ : ∃ p, rtot (I 319) c xk b0 b1 (I 326) i = p := ⟨_, rfl⟩
      have hsx : rtot (I 319) c xk b0 b1 (I 326) (i + 1) = rtst (I 319) c xk b0 b1 i p := by rw [← hp]; rfl
      rw [hp]
      refine wp_aload0 (pc' := 6) rfl rfl ?_
      refine wp_getRF (pc' := 9) rfl rfl (by first | exact TK.k1 hT rfl | exact TK.kk hT rfl | exact TK.r hT rfl | assumption) (by first | exact TK.k1 hT rfl | exact TK.kk hT rfl | exact TK.r hT rfl | assumption) rfl ?_
      refine wp_iconst (v := nI 2) (pc' := 10) rfl rfl rfl ?_
      refine wp_iald _ (pc' := 11) rfl (by first | exact TK.k1 hT rfl | exact TK.kk hT rfl | exact TK.r hT rfl | assumption) (by with_reducible rfl) (by omega) (by first | decide | assumption | omega) rfl ?_
      refine wp_iconst (v := nI 1) (pc' := 12) rfl rfl rfl ?_
      refine wp_icmpneF (pc' := 15) rfl (by rw [upr_ne (show (319 : Nat) ≠ 326 by decide)]; exact hw2) rfl ?_
      refine wp_iload4 (pc' := 17) rfl rfl ?_
      refine wp_aload0 (pc' := 18) rfl rfl ?_
      refine wp_getRF (pc' := 21) rfl rfl (by first | exact TK.k1 hT rfl | exact TK.kk hT rfl | exact TK.r hT rfl | assumption) (by first | exact TK.k1 hT rfl | exact TK.kk hT rfl | exact TK.r hT rfl | assumption) rfl ?_
      refine wp_sipush (v := nI 483) (pc' := 24) rfl rfl rfl ?_
      refine wp_iald _ (pc' := 25) rfl (by first | exact TK.k1 hT rfl | exact TK.kk hT rfl | exact TK.r hT rfl | assumption) (by with_reducible rfl) (by omega) (by first | decide | assumption | omega) rfl ?_
      refine wp_icmpgeF (pc' := 28) rfl (by rw [upr_ne (show (319 : Nat) ≠ 326 by decide), hlw.1]; exact nI_lt (by omega) (by omega)) rfl ?_
      refine wp_aload0 (pc' := 29) rfl rfl ?_
      refine wp_getRF (pc' := 32) rfl rfl (by first | exact TK.k1 hT rfl | exact TK.kk hT rfl | exact TK.r hT rfl | assumption) (by first | exact TK.k1 hT rfl | exact TK.kk hT rfl | exact TK.r hT rfl | assumption) rfl ?_
      refine wp_sipush (v := nI 484) (pc' := 35) rfl rfl rfl ?_
      refine wp_iconst (v := nI 4) (pc' := 36) rfl rfl rfl ?_
      refine wp_iload4 (pc' := 38) rfl rfl ?_
      first | refine wp_imulN (pc' := 39) rfl (by with_reducible rfl) (by with_reducible rfl) rfl ?_ | refine wp_imul (pc' := 39) rfl rfl ?_
      first | refine wp_iaddN (pc' := 40) rfl (by with_reducible rfl) (by with_reducible rfl) rfl ?_ | refine wp_iadd (pc' := 40) rfl rfl ?_
      refine wp_iald _ (pc' := 41) rfl (by first | exact TK.k1 hT rfl | exact TK.kk hT rfl | exact TK.r hT rfl | assumption) (by with_reducible rfl) (by omega) (by first | decide | assumption | omega) rfl ?_
      rw [upr_ne (show (319 : Nat) ≠ 326 by decide)]
      refine wp_iload1 (pc' := 42) rfl rfl ?_
      refine wp_icmpne (pc' := 45) rfl rfl ?_ ?_
      · intro h42
        first | refine wp_iinc4 (w := nI 1) (pc' := 76) rfl rfl rfl (by with_reducible exact nI_add _ _) rfl ?_ | refine wp_iinc4 (w := nI 1) (pc' := 76) rfl rfl rfl rfl rfl ?_
        refine wp_goto rfl ?_
        exact WP.cg (ih (i + 1) (by omega)) (lC1 (lI1 (by first | with_reducible rfl | (rw [hsx]; simp only [rtst, h42, h52, ↓reduceIte]; done) | (rw [hsx]; simp only [rtst, h42, ↓reduceIte]; done)) (lI1 (by first | with_reducible rfl | (rw [hsx]; simp only [rtst, h42, h52, ↓reduceIte]; done) | (rw [hsx]; simp only [rtst, h42, ↓reduceIte]; done)) (lI1 (by first | with_reducible rfl | (rw [hsx]; simp only [rtst, h42, h52, ↓reduceIte]; done) | (rw [hsx]; simp only [rtst, h42, ↓reduceIte]; done)) (lI1 (by first | with_reducible rfl | (rw [hsx]; simp only [rtst, h42, h52, ↓reduceIte]; done) | (rw [hsx]; simp only [rtst, h42, ↓reduceIte]; done)) rfl))))) rfl (by rw [hsx]; simp only [rtst, h42, ↓reduceIte])
      · intro h42
        refine wp_aload0 (pc' := 46) rfl rfl ?_
        refine wp_iload4 (pc' := 48) rfl rfl ?_
        refine wp_iload2 (pc' := 49) rfl rfl ?_
        refine wp_callV3 (pc' := 52) rfl rfl rfl rfl rfl (by first | exact TK.k1 hT rfl | exact TK.kk hT rfl | exact TK.r hT rfl | assumption) rfl rfl ?_
        refine m_holdsLine (l := i) (b0 := b0 i) (b1 := b1 i) hT (by omega) hc (by rw [upr_ne (show (319 : Nat) ≠ 326 by decide)]; exact hl1.1) (by rw [upr_ne (show (319 : Nat) ≠ 326 by decide)]; exact hl1.2.1) hl1.2.2.1 hl1.2.2.2.1 (by rw [upr_ne (show (319 : Nat) ≠ 326 by decide)]; exact hl1.2.2.2.2) ?_
        rw [upr_ne (show (319 : Nat) ≠ 326 by decide), upr_same, upr_upr]
        refine Cont.v ?_
        first | refine wp_ifeqB (pc' := 55) rfl rfl ?_ ?_ | refine wp_ifeq (pc' := 55) rfl rfl ?_ ?_
        · intro h52
          first | refine wp_iinc4 (w := nI 1) (pc' := 76) rfl rfl rfl (by with_reducible exact nI_add _ _) rfl ?_ | refine wp_iinc4 (w := nI 1) (pc' := 76) rfl rfl rfl rfl rfl ?_
          refine wp_goto rfl ?_
          exact WP.cg (ih (i + 1) (by omega)) (lC1 (lI1 (by first | with_reducible rfl | (rw [hsx]; simp only [rtst, h42, h52, ↓reduceIte]; done) | (rw [hsx]; simp only [rtst, h42, ↓reduceIte]; done)) (lI1 (by first | with_reducible rfl | (rw [hsx]; simp only [rtst, h42, h52, ↓reduceIte]; done) | (rw [hsx]; simp only [rtst, h42, ↓reduceIte]; done)) (lI1 (by first | with_reducible rfl | (rw [hsx]; simp only [rtst, h42, h52, ↓reduceIte]; done) | (rw [hsx]; simp only [rtst, h42, ↓reduceIte]; done)) (lI1 (by first | with_reducible rfl | (rw [hsx]; simp only [rtst, h42, h52, ↓reduceIte]; done) | (rw [hsx]; simp only [rtst, h42, ↓reduceIte]; done)) rfl))))) rfl (by rw [hsx]; simp only [rtst, h42, ↓reduceIte])
        · intro h52
          refine wp_iload3 (pc' := 56) rfl rfl ?_
          refine wp_aload0 (pc' := 57) rfl rfl ?_
          refine wp_getRF (pc' := 60) rfl rfl (by first | exact TK.k1 hT rfl | exact TK.kk hT rfl | exact TK.r hT rfl | assumption) (by first | exact TK.k1 hT rfl | exact TK.kk hT rfl | exact TK.r hT rfl | assumption) rfl ?_
          refine wp_sipush (v := nI 484) (pc' := 63) rfl rfl rfl ?_
          refine wp_iconst (v := nI 4) (pc' := 64) rfl rfl rfl ?_
          refine wp_iload4 (pc' := 66) rfl rfl ?_
          first | refine wp_imulN (pc' := 67) rfl (by with_reducible rfl) (by with_reducible rfl) rfl ?_ | refine wp_imul (pc' := 67) rfl rfl ?_
          first | refine wp_iaddN (pc' := 68) rfl (by with_reducible rfl) (by with_reducible rfl) rfl ?_ | refine wp_iadd (pc' := 68) rfl rfl ?_
          refine wp_iconst (v := nI 1) (pc' := 69) rfl rfl rfl ?_
          first | refine wp_iaddN (pc' := 70) rfl (by with_reducible rfl) (by with_reducible rfl) rfl ?_ | refine wp_iadd (pc' := 70) rfl rfl ?_
          refine wp_iald _ (pc' := 71) rfl (by first | exact TK.k1 hT rfl | exact TK.kk hT rfl | exact TK.r hT rfl | assumption) (by with_reducible rfl) (by omega) (by first | decide | assumption | omega) rfl ?_
          rw [upr_ne (show (319 : Nat) ≠ 326 by decide)]
          first | refine wp_iaddN (pc' := 72) rfl (by with_reducible rfl) (by with_reducible rfl) rfl ?_ | refine wp_iadd (pc' := 72) rfl rfl ?_
          refine wp_istore3 (pc' := 73) rfl (by first | rfl | assumption) rfl ?_
          first | refine wp_iinc4 (w := nI 1) (pc' := 76) rfl rfl rfl (by with_reducible exact nI_add _ _) rfl ?_ | refine wp_iinc4 (w := nI 1) (pc' := 76) rfl rfl rfl rfl rfl ?_
          refine wp_goto rfl ?_
          exact WP.cg (ih (i + 1) (by omega)) (lC1 (lI1 (by first | with_reducible rfl | (rw [hsx]; simp only [rtst, h42, h52, ↓reduceIte]; done) | (rw [hsx]; simp only [rtst, h42, ↓reduceIte]; done)) (lI1 (by first | with_reducible rfl | (rw [hsx]; simp only [rtst, h42, h52, ↓reduceIte]; done) | (rw [hsx]; simp only [rtst, h42, ↓reduceIte]; done)) (lI1 (by first | with_reducible rfl | (rw [hsx]; simp only [rtst, h42, h52, ↓reduceIte]; done) | (rw [hsx]; simp only [rtst, h42, ↓reduceIte]; done)) (lI1 (by first | with_reducible rfl | (rw [hsx]; simp only [rtst, h42, h52, ↓reduceIte]; done) | (rw [hsx]; simp only [rtst, h42, ↓reduceIte]; done)) rfl))))) rfl (by rw [hsx]; simp only [rtst, h42, ↓reduceIte])
  exact WP.cg (lp5 (m - (0)) (0) (by omega)) (lC1 (lI1 (by rfl) (lI1 (by rfl) (lI1 (by rfl) (lI1 (by rfl) rfl))))) rfl (by (show (K, I, L, R, n, s) = (K, upr I 326 (I 326), L, R, n, s); rw [upr_id]))

/-- what lay in the row before does not matter -/
theorem rrun_ag {w : Nat → Int32} {c : Nat} {v v2 : Nat → Int32} {bg k : Nat} (hok : LnOk w bg k) : ∀ j, j ≤ k → ∀ t, t < rdep w bg j → (rrun w c v bg j).2 t = (rrun w c v2 bg j).2 t
  | 0 => fun _ t ht => absurd ht (Nat.not_lt_zero t)
  | j + 1 => fun hj t ht => by
    have ih := rrun_ag (c := c) (v := v) (v2 := v2) hok j (by omega)
    have e1 := rrun_dep (w := w) (c := c) (v := v) (bg := bg) j
    have e2 := rrun_dep (w := w) (c := c) (v := v2) (bg := bg) j
    have ho := hok j (by omega)
    show (rstep _ _ (rrun w c v bg j)).2 t = (rstep _ _ (rrun w c v2 bg j)).2 t
    unfold rstep
    unfold rdep at ht
    by_cases h1 : nI 10 < w (532 + 2 * (bg + j))
    · rw [if_pos h1, if_pos h1]
      rw [if_pos h1] at ht
      by_cases h2 : w (532 + 2 * (bg + j)) = nI 14
      · rw [if_pos h2, if_pos h2]
        rw [if_pos h2] at ht
        have h3 := (ho h1).1 h2
        show up1 _ ((rrun w c v bg j).1 - 1) _ t = up1 _ ((rrun w c v2 bg j).1 - 1) _ t
        rw [e1, e2, ih _ (show rdep w bg j - 1 < rdep w bg j by omega)]
        unfold up1
        by_cases h4 : t = rdep w bg j - 1
        · rw [if_pos h4, if_pos h4]
        · rw [if_neg h4, if_neg h4]; exact ih t ht
      · rw [if_neg h2, if_neg h2]
        rw [if_neg h2] at ht
        have h3 := (ho h1).2 h2
        show up1 _ ((rrun w c v bg j).1 - 1 - 1) _ t = up1 _ ((rrun w c v2 bg j).1 - 1 - 1) _ t
        rw [e1, e2, ih _ (show rdep w bg j - 1 < rdep w bg j by omega), ih _ (show rdep w bg j - 1 - 1 < rdep w bg j by omega)]
        unfold up1
        by_cases h4 : t = rdep w bg j - 1 - 1
        · rw [if_pos h4, if_pos h4]
        · rw [if_neg h4, if_neg h4]; exact ih t (by omega)
    · rw [if_neg h1, if_neg h1]
      rw [if_neg h1] at ht
      show up1 _ (rrun w c v bg j).1 _ t = up1 _ (rrun w c v2 bg j).1 _ t
      rw [e1, e2]
      unfold up1
      by_cases h4 : t = rdep w bg j
      · rw [if_pos h4, if_pos h4]
      · rw [if_neg h4, if_neg h4]; exact ih t (by omega)
theorem rhld_ag {w : Nat → Int32} {c : Nat} {v v2 : Nat → Int32} {bg k : Nat} (hok : LnOk w bg k) : rhldP w c v bg k ↔ rhldP w c v2 bg k := by
  have e1 := rrun_dep (w := w) (c := c) (v := v) (bg := bg) k
  have e2 := rrun_dep (w := w) (c := c) (v := v2) (bg := bg) k
  show (_ ∨ _) ↔ (_ ∨ _)
  rw [e1, e2]
  by_cases h : 0 < rdep w bg k
  · rw [rrun_ag (v2 := v2) hok k (Nat.le_refl _) 0 h]
  · rw [show rdep w bg k = 0 by omega]
    exact ⟨fun _ => Or.inl rfl, fun _ => Or.inl rfl⟩
theorem rtot_ag {w : Nat → Int32} {c : Nat} {kd : Int32} {b0 b1 : Nat → Nat} {v v2 : Nat → Int32} {m : Nat} (h : ∀ l, l < m → LnOk w (b0 l) (b1 l - b0 l)) : ∀ j, j ≤ m → (rtot w c kd b0 b1 v j).1 = (rtot w c kd b0 b1 v2 j).1
  | 0 => fun _ => rfl
  | j + 1 => fun hj => by
    have ih := rtot_ag (c := c) (kd := kd) (v := v) (v2 := v2) h j (by omega)
    show (rtst w c kd b0 b1 j (rtot w c kd b0 b1 v j)).1 = (rtst w c kd b0 b1 j (rtot w c kd b0 b1 v2 j)).1
    unfold rtst
    by_cases h1 : w (484 + 4 * j) = kd
    · rw [if_pos h1, if_pos h1]
      have hx := rhld_ag (c := c) (v := (rtot w c kd b0 b1 v j).2) (v2 := (rtot w c kd b0 b1 v2 j).2) (h j (by omega))
      by_cases h2 : rhldP w c (rtot w c kd b0 b1 v j).2 (b0 j) (b1 j - b0 j)
      · show (if _ then _ else _) = (if _ then _ else _)
        rw [if_pos h2, if_pos (hx.mp h2), ih]
      · show (if _ then _ else _) = (if _ then _ else _)
        rw [if_neg h2, if_neg (fun q => h2 (hx.mpr q)), ih]
    · rw [if_neg h1, if_neg h1]; exact ih
abbrev RwT : Type := Option (Nat × (Nat → Nat) × (Nat → Nat))
def RO (w : Nat → Int32) (o : RwT) : Prop := match o with
  | none => ¬ w 2 = nI 1
  | some (m, b0, b1) => w 2 = nI 1 ∧ LwW w m b0 b1
def rsum (w : Nat → Int32) (c : Nat) (kd : Int32) (o : RwT) : Int32 := match o with
  | none => nI 0
  | some (m, b0, b1) => (rtot w c kd b0 b1 (fun _ => nI 0) m).1
def rgain (w : Nat → Int32) (c : Nat) (o : RwT) : Int32 := (if w 5 = nI 1 then w (9 + 6 * c + 5) - nI 3 else w 3 + nI 2 * w (9 + 6 * c + 5)) + rsum w c (nI 0) o - rsum w c (nI 1) o
def rsink (w : Nat → Int32) (c : Nat) (o : RwT) : Int32 := w (9 + 6 * c + 1) + rsum w c (nI 2) o

theorem m_sumOf0 {d : Nat} {K : Nat → Nat × Nat} {I : Nat → Nat → Int32} {L : Nat → Nat → Int64} {R : Nat → Nat → Option Nat} {n s : Nat} {Q : Lo → Lm → Prop} {c : Nat} {xk : Int32} (hT : TK K R n) (hw2 : ¬ I 319 2 = nI 1) (kk : Q (.inl (some (.int (nI 0)))) (K, I, L, R, n, s)) : Ok (d + 7) 267 [.ref 318, .int xk, .int (nI c)] (K, I, L, R, n, s) Q := by
  obtain ⟨-, -, hn⟩ := id hT
  refine Ok.enter (F := F_267) (ls := [.ref 318, .int xk, .int (nI c), lDead, lDead]) rfl rfl ?_
  refine wp_iconst (v := nI 0) (pc' := 1) rfl rfl rfl ?_
  refine wp_istore3 (pc' := 2) rfl (by first | rfl | assumption) rfl ?_
  refine wp_iconst (v := nI 0) (pc' := 3) rfl rfl rfl ?_
  refine wp_istore4 (pc' := 5) rfl (by first | rfl | assumption) rfl ?_
  have lp5 : ∀ r (i : Nat), i + r = 0 → WP (d + 6) F_267 5 [.ref 318, .int xk, .int (nI c), .int (nI 0), .int (nI i)] [] (K, I, L, R, n, s) Q := by
    intro r; induction r with
    | zero =>
      intro i hi 
      have hi2 : i = 0 := by omega
      subst hi2
      refine wp_aload0 (pc' := 6) rfl rfl ?_
      refine wp_getRF (pc' := 9) rfl rfl (by first | exact TK.k1 hT rfl | exact TK.kk hT rfl | exact TK.r hT rfl | assumption) (by first | exact TK.k1 hT rfl | exact TK.kk hT rfl | exact TK.r hT rfl | assumption) rfl ?_
      refine wp_iconst (v := nI 2) (pc' := 10) rfl rfl rfl ?_
      refine wp_iald _ (pc' := 11) rfl (by first | exact TK.k1 hT rfl | exact TK.kk hT rfl | exact TK.r hT rfl | assumption) (by with_reducible rfl) (by omega) (by first | decide | assumption | omega) rfl ?_
      refine wp_iconst (v := nI 1) (pc' := 12) rfl rfl rfl ?_
      refine wp_icmpneT rfl hw2 ?_
      refine wp_iload3 (pc' := 80) rfl rfl ?_
      refine wp_iret rfl rfl rfl ?_
      exact kk
    | succ r ih =>
      intro i hi 
      have hlt : i < 0 := by omega
      refine wp_aload0 (pc' := 6) rfl rfl ?_
      refine wp_getRF (pc' := 9) rfl rfl (by first | exact TK.k1 hT rfl | exact TK.kk hT rfl | exact TK.r hT rfl | assumption) (by first | exact TK.k1 hT rfl | exact TK.kk hT rfl | exact TK.r hT rfl | assumption) rfl ?_
      refine wp_iconst (v := nI 2) (pc' := 10) rfl rfl rfl ?_
      refine wp_iald _ (pc' := 11) rfl (by first | exact TK.k1 hT rfl | exact TK.kk hT rfl | exact TK.r hT rfl | assumption) (by with_reducible rfl) (by omega) (by first | decide | assumption | omega) rfl ?_
      refine wp_iconst (v := nI 1) (pc' := 12) rfl rfl rfl ?_
      refine wp_icmpneT rfl hw2 ?_
      refine wp_iload3 (pc' := 80) rfl rfl ?_
      refine wp_iret rfl rfl rfl ?_
      exact kk
  exact WP.cg (lp5 (0 - (0)) (0) (by omega)) (lC1 (lI1 (by rfl) (lI1 (by rfl) (lI1 (by rfl) (lI1 (by rfl) rfl))))) rfl (by first | with_reducible rfl | (simp only [forN, *, ↓reduceIte, not_true_eq_false, not_false_eq_true, and_self, and_true, true_and, and_false, false_and]; done) | rfl | (simp_all [forN]; done))

theorem m_sumOf {d : Nat} {K : Nat → Nat × Nat} {I : Mem} {L : Nat → Nat → Int64} {R : Nat → Nat → Option Nat} {n s : Nat} {Q : Lo → Lm → Prop} {c : Nat} {xk : Int32} {o : RwT} (hT : TK K R n) (hc : c < 25) (hro : RO (I 319) o) (kk : ∀ g, Q (.inl (some (.int (rsum (I 319) c xk o)))) (K, upr I 326 g, L, R, n, s)) : Ok (d + 7) 267 [.ref 318, .int xk, .int (nI c)] (K, I, L, R, n, s) Q := by
  match o, hro, kk with
  | none, hro, kk => exact m_sumOf0 hT hro (by have := kk (I 326); rw [upr_id] at this; exact this)
  | some (m, b0, b1), hro, kk =>
    refine m_sumOf1 hT hc hro.1 hro.2 ?_
    rw [rtot_ag (v2 := fun _ => nI 0) (fun l hl => (hro.2.2.2 l hl).2.2.2.2) m (Nat.le_refl _)]
    exact kk _

theorem m_gainOf {d : Nat} {K : Nat → Nat × Nat} {I : Nat → Nat → Int32} {L : Nat → Nat → Int64} {R : Nat → Nat → Option Nat} {n s : Nat} {Q : Lo → Lm → Prop} {c : Nat} {o : RwT} (hT : TK K R n) (hc : c < 25) (hro : RO (I 319) o) (kk : ∀ g, Q (.inl (some (.int (rgain (I 319) c o)))) (K, upr I 326 g, L, R, n, s)) : Ok (d + 8) 266 [.ref 318, .int (nI c)] (K, I, L, R, n, s) Q := by
  obtain ⟨-, -, hn⟩ := id hT
  refine Ok.enter (F := F_266) (ls := [.ref 318, .int (nI c), lDead]) rfl rfl ?_
  refine wp_aload0 (pc' := 1) rfl rfl ?_
  refine wp_getRF (pc' := 4) rfl rfl (by first | exact TK.k1 hT rfl | exact TK.kk hT rfl | exact TK.r hT rfl | assumption) (by first | exact TK.k1 hT rfl | exact TK.kk hT rfl | exact TK.r hT rfl | assumption) rfl ?_
  refine wp_iconst (v := nI 5) (pc' := 5) rfl rfl rfl ?_
  refine wp_iald _ (pc' := 6) rfl (by first | exact TK.k1 hT rfl | exact TK.kk hT rfl | exact TK.r hT rfl | assumption) (by with_reducible rfl) (by omega) (by first | decide | assumption | omega) rfl ?_
  refine wp_iconst (v := nI 1) (pc' := 7) rfl rfl rfl ?_
  refine wp_icmpne (pc' := 10) rfl rfl ?_ ?_
  · intro h7
    refine wp_aload0 (pc' := 22) rfl rfl ?_
    refine wp_getRF (pc' := 25) rfl rfl (by first | exact TK.k1 hT rfl | exact TK.kk hT rfl | exact TK.r hT rfl | assumption) (by first | exact TK.k1 hT rfl | exact TK.kk hT rfl | exact TK.r hT rfl | assumption) rfl ?_
    refine wp_iconst (v := nI 3) (pc' := 26) rfl rfl rfl ?_
    refine wp_iald _ (pc' := 27) rfl (by first | exact TK.k1 hT rfl | exact TK.kk hT rfl | exact TK.r hT rfl | assumption) (by with_reducible rfl) (by omega) (by first | decide | assumption | omega) rfl ?_
    refine wp_iconst (v := nI 2) (pc' := 28) rfl rfl rfl ?_
    refine wp_aload0 (pc' := 29) rfl rfl ?_
    refine wp_iload1 (pc' := 30) rfl rfl ?_
    refine wp_iconst (v := nI 5) (pc' := 31) rfl rfl rfl ?_
    refine wp_callV3 (pc' := 34) rfl rfl rfl rfl rfl (by first | exact TK.k1 hT rfl | exact TK.kk hT rfl | exact TK.r hT rfl | assumption) rfl rfl ?_
    refine m_of hT hc (by decide) ?_
    refine Cont.v ?_
    first | refine wp_imulN (pc' := 35) rfl (by with_reducible rfl) (by with_reducible rfl) rfl ?_ | refine wp_imul (pc' := 35) rfl rfl ?_
    first | refine wp_iaddN (pc' := 36) rfl (by with_reducible rfl) (by with_reducible rfl) rfl ?_ | refine wp_iadd (pc' := 36) rfl rfl ?_
    refine wp_istore2 (pc' := 37) rfl (by first | rfl | assumption) rfl ?_
    refine wp_iload2 (pc' := 38) rfl rfl ?_
    refine wp_aload0 (pc' := 39) rfl rfl ?_
    refine wp_iconst (v := nI 0) (pc' := 40) rfl rfl rfl ?_
    refine wp_iload1 (pc' := 41) rfl rfl ?_
    refine wp_callV3 (pc' := 44) rfl rfl rfl rfl rfl (by first | exact TK.k1 hT rfl | exact TK.kk hT rfl | exact TK.r hT rfl | assumption) rfl rfl ?_
    refine m_sumOf hT hc hro (fun g => ?_)
    refine Cont.v ?_
    first | refine wp_iaddN (pc' := 45) rfl (by with_reducible rfl) (by with_reducible rfl) rfl ?_ | refine wp_iadd (pc' := 45) rfl rfl ?_
    refine wp_aload0 (pc' := 46) rfl rfl ?_
    refine wp_iconst (v := nI 1) (pc' := 47) rfl rfl rfl ?_
    refine wp_iload1 (pc' := 48) rfl rfl ?_
    refine wp_callV3 (pc' := 51) rfl rfl rfl rfl rfl (by first | exact TK.k1 hT rfl | exact TK.kk hT rfl | exact TK.r hT rfl | assumption) rfl rfl ?_
    refine m_sumOf hT hc (by rw [upr_ne (show (319 : Nat) ≠ 326 by decide)]; exact hro) (fun g2 => ?_)
    rw [upr_ne (show (319 : Nat) ≠ 326 by decide), upr_upr]
    refine Cont.v ?_
    first | refine wp_isubN (pc' := 52) rfl (by with_reducible rfl) (by with_reducible rfl) (by omega) rfl ?_ | refine wp_isub (pc' := 52) rfl rfl ?_
    refine wp_iret rfl rfl rfl ?_
    first | exact Qv (kk g2) (by unfold rgain; rw [if_pos h7]) rfl | exact Qv (kk g2) (by unfold rgain; rw [if_neg h7]) rfl
  · intro h7
    refine wp_aload0 (pc' := 11) rfl rfl ?_
    refine wp_iload1 (pc' := 12) rfl rfl ?_
    refine wp_iconst (v := nI 5) (pc' := 13) rfl rfl rfl ?_
    refine wp_callV3 (pc' := 16) rfl rfl rfl rfl rfl (by first | exact TK.k1 hT rfl | exact TK.kk hT rfl | exact TK.r hT rfl | assumption) rfl rfl ?_
    refine m_of hT hc (by decide) ?_
    refine Cont.v ?_
    refine wp_iconst (v := nI 3) (pc' := 17) rfl rfl rfl ?_
    first | refine wp_isubN (pc' := 18) rfl (by with_reducible rfl) (by with_reducible rfl) (by omega) rfl ?_ | refine wp_isub (pc' := 18) rfl rfl ?_
    refine wp_goto rfl ?_
    refine wp_istore2 (pc' := 37) rfl (by first | rfl | assumption) rfl ?_
    refine wp_iload2 (pc' := 38) rfl rfl ?_
    refine wp_aload0 (pc' := 39) rfl rfl ?_
    refine wp_iconst (v := nI 0) (pc' := 40) rfl rfl rfl ?_
    refine wp_iload1 (pc' := 41) rfl rfl ?_
    refine wp_callV3 (pc' := 44) rfl rfl rfl rfl rfl (by first | exact TK.k1 hT rfl | exact TK.kk hT rfl | exact TK.r hT rfl | assumption) rfl rfl ?_
    refine m_sumOf hT hc hro (fun g => ?_)
    refine Cont.v ?_
    first | refine wp_iaddN (pc' := 45) rfl (by with_reducible rfl) (by with_reducible rfl) rfl ?_ | refine wp_iadd (pc' := 45) rfl rfl ?_
    refine wp_aload0 (pc' := 46) rfl rfl ?_
    refine wp_iconst (v := nI 1) (pc' := 47) rfl rfl rfl ?_
    refine wp_iload1 (pc' := 48) rfl rfl ?_
    refine wp_callV3 (pc' := 51) rfl rfl rfl rfl rfl (by first | exact TK.k1 hT rfl | exact TK.kk hT rfl | exact TK.r hT rfl | assumption) rfl rfl ?_
    refine m_sumOf hT hc (by rw [upr_ne (show (319 : Nat) ≠ 326 by decide)]; exact hro) (fun g2 => ?_)
    rw [upr_ne (show (319 : Nat) ≠ 326 by decide), upr_upr]
    refine Cont.v ?_
    first | refine wp_isubN (pc' := 52) rfl (by with_reducible rfl) (by with_reducible rfl) (by omega) rfl ?_ | refine wp_isub (pc' := 52) rfl rfl ?_
    refine wp_iret rfl rfl rfl ?_
    first | exact Qv (kk g2) (by unfold rgain; rw [if_pos h7]) rfl | exact Qv (kk g2) (by unfold rgain; rw [if_neg h7]) rfl
theorem m_sinksBy {d : Nat} {K : Nat → Nat × Nat} {I : Nat → Nat → Int32} {L : Nat → Nat → Int64} {R : Nat → Nat → Option Nat} {n s : Nat} {Q : Lo → Lm → Prop} {c : Nat} {o : RwT} (hT : TK K R n) (hc : c < 25) (hro : RO (I 319) o) (kk : ∀ g, Q (.inl (some (.int (rsink (I 319) c o)))) (K, upr I 326 g, L, R, n, s)) : Ok (d + 8) 270 [.ref 318, .int (nI c)] (K, I, L, R, n, s) Q := by
  obtain ⟨-, -, hn⟩ := id hT
  refine Ok.enter (F := F_270) (ls := [.ref 318, .int (nI c)]) rfl rfl ?_
  refine wp_aload0 (pc' := 1) rfl rfl ?_
  refine wp_iload1 (pc' := 2) rfl rfl ?_
  refine wp_iconst (v := nI 1) (pc' := 3) rfl rfl rfl ?_
  refine wp_callV3 (pc' := 6) rfl rfl rfl rfl rfl (by first | exact TK.k1 hT rfl | exact TK.kk hT rfl | exact TK.r hT rfl | assumption) rfl rfl ?_
  refine m_of hT hc (by decide) ?_
  refine Cont.v ?_
  refine wp_aload0 (pc' := 7) rfl rfl ?_
  refine wp_iconst (v := nI 2) (pc' := 8) rfl rfl rfl ?_
  refine wp_iload1 (pc' := 9) rfl rfl ?_
  refine wp_callV3 (pc' := 12) rfl rfl rfl rfl rfl (by first | exact TK.k1 hT rfl | exact TK.kk hT rfl | exact TK.r hT rfl | assumption) rfl rfl ?_
  refine m_sumOf hT hc hro (fun g => ?_)
  refine Cont.v ?_
  first | refine wp_iaddN (pc' := 13) rfl (by with_reducible rfl) (by with_reducible rfl) rfl ?_ | refine wp_iadd (pc' := 13) rfl rfl ?_
  refine wp_iret rfl rfl rfl ?_
  exact kk g
