/-! A LAW: its values -/
theorem sw_def {x : Int32} {lo d : Nat} {ts : List Nat} (h : ∀ k, k < ts.length → ¬ x = nI (lo + k)) : s_sw x lo d ts = d := by
  unfold s_sw
  by_cases hl : x.toInt < (lo : Int)
  · rw [if_pos hl]
  · rw [if_neg hl]
    by_cases hk : (x.toInt - lo).toNat < ts.length
    · exfalso
      refine h _ hk ?_
      apply Int32.toInt_inj.mp
      have hx := Int32.toInt_lt x
      rw [nI_toInt (by omega)]
      omega
    · rw [List.getD_eq_getElem?_getD, List.getElem?_eq_none (by omega)]; rfl
def valC (I : Nat → Nat → Int32) (b c : Nat) (dr w : Int32) : Int32 :=
  if w - nI 1000 = nI 0 then nI c else if w - nI 1000 = nI 1 then nI (c % 5) else if w - nI 1000 = nI 2 then nI (c / 5) else if w - nI 1000 = nI 3 then I (b + 1) c else if w - nI 1000 = nI 4 then I (b + 2) c
  else if w - nI 1000 = nI 5 then I (b + 3) c else if w - nI 1000 = nI 6 then I b 12 else if w - nI 1000 = nI 7 then jshr dr (nI c) &&& nI 1 else if w - nI 1000 = nI 8 then (if I b 14 = nI 0 then nI 0 else nI 1) else if nI 0 < I (b + 3) c then nI 1 else nI 0
def joinC (w x y : Int32) : Int32 := if w = nI 1011 then x + y else if w = nI 1012 then (if x < y then nI 1 else nI 0) else if w = nI 1013 then (if y < x then nI 1 else nI 0) else if w = nI 1014 then x &&& y else x ||| y

theorem c_value {d : Nat} {K : Nat → Nat × Nat} {I : Nat → Nat → Int32} {L : Nat → Nat → Int64} {R : Nat → Nat → Option Nat} {n s : Nat} {Q : Lo → Lm → Prop} {b c : Nat} {w dr : Int32} (hb : StK K R n b) (hc : c < 25) (kk : Q (.inl (some (.int (valC I b c dr w)))) (K, I, L, R, n, s)) : Ok (d + 1) 35 [.int w, .ref b, .int (nI c), .int dr] (K, I, L, R, n, s) Q := by
  obtain ⟨k0, k1, k2, k3, k4, k5, k6, k7, k8, k9, k10, k11, r0, r1, r2, r3, r4, r5, r6, r7, r8, r9, r10, hbn⟩ := id hb
  refine Ok.enter (F := F_35) (ls := [.int w, .ref b, .int (nI c), .int dr]) rfl rfl ?_
  refine wp_iload0 (pc' := 1) rfl rfl ?_
  refine wp_sipush (v := nI 1000) (pc' := 4) rfl rfl rfl ?_
  first | refine wp_isubN (pc' := 5) rfl (by with_reducible rfl) (by with_reducible rfl) (by omega) rfl ?_ | refine wp_isub (pc' := 5) rfl rfl ?_
  by_cases hs0 : w - nI 1000 = nI 0
  · refine wp_sw (tg := 56) rfl (by rw [hs0]; rfl) ?_
    refine wp_iload2 (pc' := 57) rfl rfl ?_
    refine wp_iret rfl rfl rfl ?_
    exact Qv kk (by first | rfl | (simp +decide only [valC, *, ↓reduceIte, and_self, and_true, true_and, and_false, false_and, not_true_eq_false, not_false_eq_true]; done) | (simp_all [valC]; done)) rfl
  by_cases hs1 : w - nI 1000 = nI 1
  · refine wp_sw (tg := 58) rfl (by rw [hs1]; rfl) ?_
    refine wp_iload2 (pc' := 59) rfl rfl ?_
    refine wp_iconst (v := nI 5) (pc' := 60) rfl rfl rfl ?_
    first | refine wp_iremN (pc' := 61) rfl (by with_reducible rfl) (by with_reducible rfl) (by omega) (by omega) (by omega) rfl ?_ | refine wp_irem (pc' := 61) rfl (by decide) rfl ?_
    refine wp_iret rfl rfl rfl ?_
    exact Qv kk (by first | rfl | (simp +decide only [valC, *, ↓reduceIte, and_self, and_true, true_and, and_false, false_and, not_true_eq_false, not_false_eq_true]; done) | (simp_all [valC]; done)) rfl
  by_cases hs2 : w - nI 1000 = nI 2
  · refine wp_sw (tg := 62) rfl (by rw [hs2]; rfl) ?_
    refine wp_iload2 (pc' := 63) rfl rfl ?_
    refine wp_iconst (v := nI 5) (pc' := 64) rfl rfl rfl ?_
    first | refine wp_idivN (pc' := 65) rfl (by with_reducible rfl) (by with_reducible rfl) (by omega) (by omega) (by omega) rfl ?_ | refine wp_idiv (pc' := 65) rfl (by decide) rfl ?_
    refine wp_iret rfl rfl rfl ?_
    exact Qv kk (by first | rfl | (simp +decide only [valC, *, ↓reduceIte, and_self, and_true, true_and, and_false, false_and, not_true_eq_false, not_false_eq_true]; done) | (simp_all [valC]; done)) rfl
  by_cases hs3 : w - nI 1000 = nI 3
  · refine wp_sw (tg := 66) rfl (by rw [hs3]; rfl) ?_
    refine wp_aload1 (pc' := 67) rfl rfl ?_
    refine wp_getRF (pc' := 70) rfl rfl (by assumption) (by assumption) rfl ?_
    refine wp_iload2 (pc' := 71) rfl rfl ?_
    refine wp_iald _ (pc' := 72) rfl (by assumption) (by with_reducible rfl) (by omega) (by first | decide | assumption | omega) rfl ?_
    refine wp_iret rfl rfl rfl ?_
    exact Qv kk (by first | rfl | (simp +decide only [valC, *, ↓reduceIte, and_self, and_true, true_and, and_false, false_and, not_true_eq_false, not_false_eq_true]; done) | (simp_all [valC]; done)) rfl
  by_cases hs4 : w - nI 1000 = nI 4
  · refine wp_sw (tg := 73) rfl (by rw [hs4]; rfl) ?_
    refine wp_aload1 (pc' := 74) rfl rfl ?_
    refine wp_getRF (pc' := 77) rfl rfl (by assumption) (by assumption) rfl ?_
    refine wp_iload2 (pc' := 78) rfl rfl ?_
    refine wp_iald _ (pc' := 79) rfl (by assumption) (by with_reducible rfl) (by omega) (by first | decide | assumption | omega) rfl ?_
    refine wp_iret rfl rfl rfl ?_
    exact Qv kk (by first | rfl | (simp +decide only [valC, *, ↓reduceIte, and_self, and_true, true_and, and_false, false_and, not_true_eq_false, not_false_eq_true]; done) | (simp_all [valC]; done)) rfl
  by_cases hs5 : w - nI 1000 = nI 5
  · refine wp_sw (tg := 80) rfl (by rw [hs5]; rfl) ?_
    refine wp_aload1 (pc' := 81) rfl rfl ?_
    refine wp_getRF (pc' := 84) rfl rfl (by assumption) (by assumption) rfl ?_
    refine wp_iload2 (pc' := 85) rfl rfl ?_
    refine wp_iald _ (pc' := 86) rfl (by assumption) (by with_reducible rfl) (by omega) (by first | decide | assumption | omega) rfl ?_
    refine wp_iret rfl rfl rfl ?_
    exact Qv kk (by first | rfl | (simp +decide only [valC, *, ↓reduceIte, and_self, and_true, true_and, and_false, false_and, not_true_eq_false, not_false_eq_true]; done) | (simp_all [valC]; done)) rfl
  by_cases hs6 : w - nI 1000 = nI 6
  · refine wp_sw (tg := 87) rfl (by rw [hs6]; rfl) ?_
    refine wp_aload1 (pc' := 88) rfl rfl ?_
    refine wp_getI (pc' := 91) rfl rfl (by assumption) rfl ?_
    refine wp_iret rfl rfl rfl ?_
    exact Qv kk (by first | rfl | (simp +decide only [valC, *, ↓reduceIte, and_self, and_true, true_and, and_false, false_and, not_true_eq_false, not_false_eq_true]; done) | (simp_all [valC]; done)) rfl
  by_cases hs7 : w - nI 1000 = nI 7
  · refine wp_sw (tg := 92) rfl (by rw [hs7]; rfl) ?_
    refine wp_iload3 (pc' := 93) rfl rfl ?_
    refine wp_iload2 (pc' := 94) rfl rfl ?_
    refine wp_ishr (pc' := 95) rfl rfl ?_
    refine wp_iconst (v := nI 1) (pc' := 96) rfl rfl rfl ?_
    refine wp_iand (pc' := 97) rfl rfl ?_
    refine wp_iret rfl rfl rfl ?_
    exact Qv kk (by first | rfl | (simp +decide only [valC, *, ↓reduceIte, and_self, and_true, true_and, and_false, false_and, not_true_eq_false, not_false_eq_true]; done) | (simp_all [valC]; done)) rfl
  by_cases hs8 : w - nI 1000 = nI 8
  · refine wp_sw (tg := 98) rfl (by rw [hs8]; rfl) ?_
    refine wp_aload1 (pc' := 99) rfl rfl ?_
    refine wp_getZ (pc' := 102) rfl rfl (by assumption) rfl ?_
    first | refine wp_ifeqB (pc' := 105) rfl rfl ?_ ?_ | refine wp_ifeq (pc' := 105) rfl rfl ?_ ?_
    · intro h102
      refine wp_iconst (v := nI 0) (pc' := 110) rfl rfl rfl ?_
      refine wp_iret rfl rfl rfl ?_
      exact Qv kk (by first | rfl | (simp +decide only [valC, *, ↓reduceIte, and_self, and_true, true_and, and_false, false_and, not_true_eq_false, not_false_eq_true]; done) | (simp_all [valC]; done)) rfl
    · intro h102
      refine wp_iconst (v := nI 1) (pc' := 106) rfl rfl rfl ?_
      refine wp_goto rfl ?_
      refine wp_iret rfl rfl rfl ?_
      exact Qv kk (by first | rfl | (simp +decide only [valC, *, ↓reduceIte, and_self, and_true, true_and, and_false, false_and, not_true_eq_false, not_false_eq_true]; done) | (simp_all [valC]; done)) rfl
  refine wp_sw (tg := 111) rfl (sw_def (fun k hk => match k, hk with | 0, _ => hs0 | 1, _ => hs1 | 2, _ => hs2 | 3, _ => hs3 | 4, _ => hs4 | 5, _ => hs5 | 6, _ => hs6 | 7, _ => hs7 | 8, _ => hs8 | k + 9, h => absurd h (show ¬ k + 9 < 9 by omega))) ?_
  refine wp_aload1 (pc' := 112) rfl rfl ?_
  refine wp_getRF (pc' := 115) rfl rfl (by assumption) (by assumption) rfl ?_
  refine wp_iload2 (pc' := 116) rfl rfl ?_
  refine wp_iald _ (pc' := 117) rfl (by assumption) (by with_reducible rfl) (by omega) (by first | decide | assumption | omega) rfl ?_
  refine wp_ifle (pc' := 120) rfl rfl ?_ ?_
  · intro h117
    refine wp_iconst (v := nI 0) (pc' := 125) rfl rfl rfl ?_
    refine wp_iret rfl rfl rfl ?_
    exact Qv kk (by first | rfl | (simp +decide only [valC, *, ↓reduceIte, and_self, and_true, true_and, and_false, false_and, not_true_eq_false, not_false_eq_true]; done) | (simp_all [valC]; done)) rfl
  · intro h117
    refine wp_iconst (v := nI 1) (pc' := 121) rfl rfl rfl ?_
    refine wp_goto rfl ?_
    refine wp_iret rfl rfl rfl ?_
    exact Qv kk (by first | rfl | (simp +decide only [valC, *, ↓reduceIte, and_self, and_true, true_and, and_false, false_and, not_true_eq_false, not_false_eq_true]; done) | (simp_all [valC]; done)) rfl
theorem c_join {d : Nat} {K : Nat → Nat × Nat} {I : Nat → Nat → Int32} {L : Nat → Nat → Int64} {R : Nat → Nat → Option Nat} {n s : Nat} {Q : Lo → Lm → Prop} {w x y : Int32}  (kk : Q (.inl (some (.int (joinC w x y)))) (K, I, L, R, n, s)) : Ok (d + 1) 36 [.int w, .int x, .int y] (K, I, L, R, n, s) Q := by
  refine Ok.enter (F := F_36) (ls := [.int w, .int x, .int y]) rfl rfl ?_
  refine wp_iload0 (pc' := 1) rfl rfl ?_
  by_cases hs1011 : w = nI 1011
  · refine wp_sw (tg := 32) rfl (by rw [hs1011]; rfl) ?_
    refine wp_iload1 (pc' := 33) rfl rfl ?_
    refine wp_iload2 (pc' := 34) rfl rfl ?_
    first | refine wp_iaddN (pc' := 35) rfl (by with_reducible rfl) (by with_reducible rfl) rfl ?_ | refine wp_iadd (pc' := 35) rfl rfl ?_
    refine wp_iret rfl rfl rfl ?_
    exact Qv kk (by first | rfl | (simp +decide only [joinC, *, ↓reduceIte, and_self, and_true, true_and, and_false, false_and, not_true_eq_false, not_false_eq_true]; done) | (simp_all [joinC]; done)) rfl
  by_cases hs1012 : w = nI 1012
  · refine wp_sw (tg := 36) rfl (by rw [hs1012]; rfl) ?_
    refine wp_iload1 (pc' := 37) rfl rfl ?_
    refine wp_iload2 (pc' := 38) rfl rfl ?_
    refine wp_icmpge (pc' := 41) rfl rfl ?_ ?_
    · intro h38
      refine wp_iconst (v := nI 0) (pc' := 46) rfl rfl rfl ?_
      refine wp_iret rfl rfl rfl ?_
      exact Qv kk (by first | rfl | (simp +decide only [joinC, *, ↓reduceIte, and_self, and_true, true_and, and_false, false_and, not_true_eq_false, not_false_eq_true]; done) | (simp_all [joinC]; done)) rfl
    · intro h38
      refine wp_iconst (v := nI 1) (pc' := 42) rfl rfl rfl ?_
      refine wp_goto rfl ?_
      refine wp_iret rfl rfl rfl ?_
      exact Qv kk (by first | rfl | (simp +decide only [joinC, *, ↓reduceIte, and_self, and_true, true_and, and_false, false_and, not_true_eq_false, not_false_eq_true]; done) | (simp_all [joinC]; done)) rfl
  by_cases hs1013 : w = nI 1013
  · refine wp_sw (tg := 47) rfl (by rw [hs1013]; rfl) ?_
    refine wp_iload1 (pc' := 48) rfl rfl ?_
    refine wp_iload2 (pc' := 49) rfl rfl ?_
    refine wp_icmple (pc' := 52) rfl rfl ?_ ?_
    · intro h49
      refine wp_iconst (v := nI 0) (pc' := 57) rfl rfl rfl ?_
      refine wp_iret rfl rfl rfl ?_
      exact Qv kk (by first | rfl | (simp +decide only [joinC, *, ↓reduceIte, and_self, and_true, true_and, and_false, false_and, not_true_eq_false, not_false_eq_true]; done) | (simp_all [joinC]; done)) rfl
    · intro h49
      refine wp_iconst (v := nI 1) (pc' := 53) rfl rfl rfl ?_
      refine wp_goto rfl ?_
      refine wp_iret rfl rfl rfl ?_
      exact Qv kk (by first | rfl | (simp +decide only [joinC, *, ↓reduceIte, and_self, and_true, true_and, and_false, false_and, not_true_eq_false, not_false_eq_true]; done) | (simp_all [joinC]; done)) rfl
  by_cases hs1014 : w = nI 1014
  · refine wp_sw (tg := 58) rfl (by rw [hs1014]; rfl) ?_
    refine wp_iload1 (pc' := 59) rfl rfl ?_
    refine wp_iload2 (pc' := 60) rfl rfl ?_
    refine wp_iand (pc' := 61) rfl rfl ?_
    refine wp_iret rfl rfl rfl ?_
    exact Qv kk (by first | rfl | (simp +decide only [joinC, *, ↓reduceIte, and_self, and_true, true_and, and_false, false_and, not_true_eq_false, not_false_eq_true]; done) | (simp_all [joinC]; done)) rfl
  refine wp_sw (tg := 62) rfl (sw_def (fun k hk => match k, hk with | 0, _ => hs1011 | 1, _ => hs1012 | 2, _ => hs1013 | 3, _ => hs1014 | k + 4, h => absurd h (show ¬ k + 4 < 4 by omega))) ?_
  refine wp_iload1 (pc' := 63) rfl rfl ?_
  refine wp_iload2 (pc' := 64) rfl rfl ?_
  refine wp_ior (pc' := 65) rfl rfl ?_
  refine wp_iret rfl rfl rfl ?_
  exact Qv kk (by first | rfl | (simp +decide only [joinC, *, ↓reduceIte, and_self, and_true, true_and, and_false, false_and, not_true_eq_false, not_false_eq_true]; done) | (simp_all [joinC]; done)) rfl
