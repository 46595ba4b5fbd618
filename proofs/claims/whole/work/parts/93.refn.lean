/-! THE REFERENCE: trunks -/
/-- a byte of the tape, with its sign -/
def sbI (v : Nat) : Int32 := if v < 128 then nI v else nI v - nI 256
def TpW (t : Nat → Int32) (tv : Nat → Nat) : Prop := ∀ j, j < 400 → t j = sbI (tv j) ∧ tv j < 256
theorem sb_lo {v : Nat} (h : v < 128) : sbI v = nI v := if_pos h
theorem sb_ng : ∀ v : Fin 256, 128 ≤ v.1 → sbI v.1 < nI 0 := by decide +kernel
theorem sb_in {v k : Nat} (hv : v < 256) (hk : k < 128) : (¬ sbI v < nI 0 ∧ ¬ nI k < sbI v) ↔ v ≤ k := by
  by_cases h : v < 128
  · rw [sb_lo h]
    constructor
    · intro q; exact ge_nI q.2 (by omega)
    · intro q; exact ⟨nI_pos (by omega), nI_nlt (by omega) (by omega)⟩
  · constructor
    · intro q; exact absurd (sb_ng ⟨v, hv⟩ (by show 128 ≤ v; omega)) q.1
    · intro q; omega
theorem sb_InR {v k : Nat} (hv : v < 256) (hk : k < 128) : InR (sbI v) (k + 1) ↔ v < k + 1 := by
  rw [← InR_iff (by omega), sb_in hv hk]; omega
theorem m_noCellS {d : Nat} {K : Nat → Nat × Nat} {I : Mem} {L : Nat → Nat → Int64} {R : Nat → Nat → Option Nat} {n s : Nat} {Q : Lo → Lm → Prop} {v : Nat} (hv : v < 256) (kk : Q (.inl (some (.int (if ¬ v < 25 then nI 1 else nI 0)))) (K, I, L, R, n, s)) : Ok (d + 2) 256 [.int (sbI v)] (K, I, L, R, n, s) Q := m_noCell (by
  unfold bNI
  by_cases h : v < 25
  · rw [if_pos ((sb_InR hv (by decide)).mpr h)]; rw [if_neg (fun q => q h)] at kk; exact kk
  · rw [if_neg (fun q => h ((sb_InR (k := 24) hv (by decide)).mp q))]; rw [if_pos h] at kk; exact kk)
theorem m_inS {d : Nat} {K : Nat → Nat × Nat} {I : Mem} {L : Nat → Nat → Int64} {R : Nat → Nat → Option Nat} {n s : Nat} {Q : Lo → Lm → Prop} {v k : Nat} (hv : v < 256) (hk : k < 128) (kk : Q (.inl (some (.int (if v ≤ k then nI 1 else nI 0)))) (K, I, L, R, n, s)) : Ok (d + 1) 257 [.int (sbI v), .int (nI 0), .int (nI k)] (K, I, L, R, n, s) Q := m_in (by
  by_cases h : v ≤ k
  · rw [if_pos ((sb_in hv hk).mpr h)]; rw [if_pos h] at kk; exact kk
  · rw [if_neg (fun q => h ((sb_in hv hk).mp q))]; rw [if_neg h] at kk; exact kk)
/-- the tape is used up -/
def UsN (I N : Mem) (T : Nat) : Prop := (∀ a, a ≠ 318 → N a = I a) ∧ (∀ j, (j = 6 ∨ j = 7 ∨ j = 14) → N 318 j = I 318 j) ∧ N 318 0 = nI 0 ∧ N 318 9 = nI 0 ∧ N 318 11 = nI T ∧ N 318 10 = nI 0
def UsJ (k : Nat) (I J : Mem) : Prop := (∀ a, (a < 318 ∨ a = 319 ∨ a = 320 ∨ a = 321 ∨ a = 323 ∨ a = 324 ∨ 337 ≤ a) → J a = I a) ∧ (∀ j, (j = 6 ∨ j = 7 ∨ j = 14) → J 318 j = I 318 j) ∧ J 318 0 = nI k ∧ J 318 9 = nI 0
theorem m_usesN {d : Nat} {K : Nat → Nat × Nat} {I : Mem} {L : Nat → Nat → Int64} {R : Nat → Nat → Option Nat} {n s : Nat} {Q : Lo → Lm → Prop} {T : Nat} (hT : TK K R n) (h9 : I 318 9 = nI T) (kk : ∀ N, UsN I N T → Q (.inl none) (K, N, L, R, n, s)) : Ok (d + 1) 221 [.ref 318] (K, I, L, R, n, s) Q := m_uses hT (kk _ ⟨fun a ha => by rw [up2_row ha, up2_row ha, up2_row ha, up2_row ha], fun j hj => by
    rcases hj with rfl | rfl | rfl <;> simp +decide only [up2_same, ↓reduceIte], by simp +decide only [up2_same, ↓reduceIte], by simp +decide only [up2_same, ↓reduceIte], by simp +decide only [up2_same, ↓reduceIte]; exact h9, by simp +decide only [up2_same, ↓reduceIte]⟩)
theorem us_mk {I N J : Mem} {T : Nat} (h : UsN I N T) (e : ∀ a, (a ≤ 321 ∨ a = 323 ∨ a = 324 ∨ 337 ≤ a) → J a = N a) : UsJ 0 I J :=
  ⟨fun a ha => (e a (by omega)).trans (h.1 a (by omega)), fun j hj => by rw [e 318 (by omega)]; exact h.2.1 j hj, by rw [e 318 (by omega)]; exact h.2.2.1, by rw [e 318 (by omega)]; exact h.2.2.2.1⟩
theorem us_thr {I N : Mem} {T k : Nat} (h : UsN I N T) : UsJ k I (up2 N 318 0 (nI k)) :=
  ⟨fun a ha => (up2_row (by omega)).trans (h.1 a (by omega)), fun j hj => by rw [up2_same, if_neg (by omega)]; exact h.2.1 j hj, up2_hit, by rw [up2_same, if_neg (by decide)]; exact h.2.2.2.1⟩
theorem fl_t {p q : Prop} [Decidable p] [Decidable q] (hp : p) (hq : q) : nI 1 = if decide (p ∧ q) = true then nI 1 else nI 0 := (if_pos (decide_eq_true ⟨hp, hq⟩)).symm
theorem fl_1 {p q : Prop} [Decidable p] [Decidable q] (hp : ¬ p) : nI 0 = if decide (p ∧ q) = true then nI 1 else nI 0 := (if_neg (fun z => hp (of_decide_eq_true z).1)).symm
theorem fl_2 {p q : Prop} [Decidable p] [Decidable q] (hq : ¬ q) : nI 0 = if decide (p ∧ q) = true then nI 1 else nI 0 := (if_neg (fun z => hq (of_decide_eq_true z).2)).symm
theorem trB_pre {u v : Nat} {tv : Nat → Nat} {T i : Nat} : ∀ m, i ≤ m → trB u v tv T m = true → trB u v tv T i = true
  | 0 => fun h q => by rw [show i = 0 by omega]; exact q
  | m + 1 => fun h q => by
    by_cases e : i = m + 1
    · rw [e]; exact q
    · have q' : (trB u v tv T m && decide (tv m < if m % 2 = 0 then u else v)) = true := q
      rw [Bool.and_eq_true] at q'
      exact trB_pre m (by omega) q'.1
theorem trB_two {u v : Nat} {tv : Nat → Nat} {T i : Nat} (h : trB u v tv T (2 * i) = true) (h1 : tv (2 * i) < u) (h2 : tv (2 * i + 1) < v) : trB u v tv T (2 * (i + 1)) = true := by
  show (trB u v tv T (2 * i) && decide (tv (2 * i) < if 2 * i % 2 = 0 then u else v) && decide (tv (2 * i + 1) < if (2 * i + 1) % 2 = 0 then u else v)) = true
  rw [h, if_pos (by omega), if_neg (by omega), decide_eq_true h1, decide_eq_true h2]; rfl
theorem trB_no {u v : Nat} {tv : Nat → Nat} {T i : Nat} (h : trB u v tv T (2 * i) = true) (hi : 2 * i < T) (h1 : ¬ (tv (2 * i) < u ∧ tv (2 * i + 1) < v)) : trB u v tv T T = false := by
  rw [Bool.eq_false_iff]
  intro q
  have h2 := (trB_40 h).2
  apply h1
  have a := trB_lt q (2 * i) hi
  have b := trB_lt q (2 * i + 1) (by omega)
  rw [if_pos (by omega)] at a
  rw [if_neg (by omega)] at b
  exact ⟨a, b⟩
theorem isr_end {u v : Nat} {tv : Nat → Nat} {T i : Nat} {b : Bool} (h1 : b = true → trB u v tv T (2 * i) = true) (h2 : b = false → trB u v tv T T = false) (h3 : T ≤ 2 * i ∨ b = false) : (if b = true then nI 1 else nI 0) = if trB u v tv T T = true then nI 1 else nI 0 := by
  cases b with
  | false => rw [h2 rfl]
  | true => rw [if_pos rfl, if_pos (trB_pre (2 * i) (h3.resolve_right (by decide)) (h1 rfl))]
theorem trB_z {u v : Nat} {tv : Nat → Nat} {T : Nat} (h : T ≤ 40 ∧ T % 2 = 0) : trB u v tv T (2 * 0) = true := by
  show (decide (T ≤ 40) && decide (T % 2 = 0)) = true
  rw [decide_eq_true h.1, decide_eq_true h.2]; rfl
theorem trB_zf {u v : Nat} {tv : Nat → Nat} {T : Nat} (h : ¬ (T ≤ 40 ∧ T % 2 = 0)) : trB u v tv T T = false := by
  rw [Bool.eq_false_iff]; intro q; exact h (trB_40 q)

theorem m_isRows {d : Nat} {K : Nat → Nat × Nat} {I : Nat → Nat → Int32} {L : Nat → Nat → Int64} {R : Nat → Nat → Option Nat} {n s : Nat} {Q : Lo → Lm → Prop} {T : Nat} {tv : Nat → Nat} (hT : TK K R n) (he : I 318 11 = nI T) (hT4 : T ≤ 400) (htp : TpW (I 324) tv) (kk : Q (.inl (some (.int (if trB 25 2 tv T T = true then nI 1 else nI 0)))) (K, I, L, R, n, s)) : Ok (d + 3) 317 [.ref 318] (K, I, L, R, n, s) Q := by
  obtain ⟨-, -, hn⟩ := id hT
  refine Ok.enter (F := F_317) (ls := [.ref 318, lDead, lDead]) rfl rfl ?_
  refine wp_aload0 (pc' := 1) rfl rfl ?_
  refine wp_getI (pc' := 4) rfl rfl (by first | exact TK.k1 hT rfl | exact TK.kk hT rfl | exact TK.r hT rfl | assumption) rfl ?_
  rw [he]
  refine wp_iconst (v := nI 2) (pc' := 5) rfl rfl rfl ?_
  first | refine wp_iremN (pc' := 6) rfl (by with_reducible rfl) (by with_reducible rfl) (by omega) (by omega) (by omega) rfl ?_ | refine wp_irem (pc' := 6) rfl (by decide) rfl ?_
  first | refine wp_ifneB (pc' := 9) rfl rfl ?_ ?_ | refine wp_ifne (pc' := 9) rfl rfl ?_ ?_
  · intro h6
    refine wp_iconst (v := nI 0) (pc' := 23) rfl rfl rfl ?_
    refine wp_istore1 (pc' := 24) rfl (by first | rfl | assumption) rfl ?_
    refine wp_iconst (v := nI 0) (pc' := 25) rfl rfl rfl ?_
    refine wp_istore2 (pc' := 26) rfl (by first | rfl | assumption) rfl ?_
    have lp26 : ∀ r (i : Nat) (b : Bool), T + 2 ≤ 2 * i + r ∧ 2 * i ≤ T + 1 → (b = true → trB 25 2 tv T (2 * i) = true) → (b = false → trB 25 2 tv T T = false) → WP (d + 2) F_317 26 [.ref 318, .int (if b = true then nI 1 else nI 0), .int (nI (2 * i))] [] (K, I, L, R, n, s) Q := by
      intro r; induction r with
      | zero =>
        intro i b hi hv0 hv1
        exact absurd hi (by omega)
      | succ r ih =>
        intro i b hi hv0 hv1
        refine wp_iload2 (pc' := 27) rfl rfl ?_
        refine wp_aload0 (pc' := 28) rfl rfl ?_
        refine wp_getI (pc' := 31) rfl rfl (by first | exact TK.k1 hT rfl | exact TK.kk hT rfl | exact TK.r hT rfl | assumption) rfl ?_
        rw [he]
        refine wp_icmpge (pc' := 34) rfl rfl ?_ ?_
        · intro h31
          refine wp_iload1 (pc' := 79) rfl rfl ?_
          refine wp_iret rfl rfl (by first | rfl | exact nar_if) ?_
          first | exact Qv kk (isr_end hv0 hv1 (Or.inl (ge_nI h31 (by omega)))) rfl | exact Qv kk (isr_end hv0 hv1 (Or.inr (Bool.eq_false_iff.mpr h35))) rfl
        · intro h31
          refine wp_iload1 (pc' := 35) rfl rfl ?_
          first | refine wp_ifeqB (pc' := 38) rfl rfl ?_ ?_ | refine wp_ifeq (pc' := 38) rfl rfl ?_ ?_
          · intro h35
            refine wp_iload1 (pc' := 79) rfl rfl ?_
            refine wp_iret rfl rfl (by first | rfl | exact nar_if) ?_
            first | exact Qv kk (isr_end hv0 hv1 (Or.inl (ge_nI h31 (by omega)))) rfl | exact Qv kk (isr_end hv0 hv1 (Or.inr (Bool.eq_false_iff.mpr h35))) rfl
          · intro h35
            have hlt2 := nI_lt_inv (by omega) (by omega) h31
            have he2 := trB_40 (hv0 h35)
            have htb1 := (htp (2 * i) (by omega)).2
            have htb2 := (htp (2 * i + 1) (by omega)).2
            refine wp_aload0 (pc' := 39) rfl rfl ?_
            refine wp_getRF (pc' := 42) rfl rfl (by first | exact TK.k1 hT rfl | exact TK.kk hT rfl | exact TK.r hT rfl | assumption) (by first | exact TK.k1 hT rfl | exact TK.kk hT rfl | exact TK.r hT rfl | assumption) rfl ?_
            refine wp_iload2 (pc' := 43) rfl rfl ?_
            first | refine wp_bald _ (pc' := 44) rfl (by first | exact TK.k1 hT rfl | exact TK.kk hT rfl | exact TK.r hT rfl | assumption) (by with_reducible rfl) (by omega) (by first | decide | assumption | omega) rfl ?_ | refine wp_zald _ (pc' := 44) rfl (by first | exact TK.k1 hT rfl | exact TK.kk hT rfl | exact TK.r hT rfl | assumption) (by with_reducible rfl) (by omega) (by first | decide | assumption | omega) rfl ?_
            rw [(htp _ (by omega)).1]
            refine wp_callS1 (pc' := 47) rfl rfl rfl rfl rfl rfl ?_
            refine m_noCellS (by omega) ?_
            refine Cont.v ?_
            first | refine wp_ifneB (pc' := 50) rfl rfl ?_ ?_ | refine wp_ifne (pc' := 50) rfl rfl ?_ ?_
            · intro h47
              refine wp_iconst (v := nI 0) (pc' := 71) rfl rfl rfl ?_
              refine wp_istore1 (pc' := 72) rfl (by first | rfl | assumption) rfl ?_
              first | refine wp_iinc2 (w := nI 2) (pc' := 75) rfl rfl rfl (by with_reducible exact nI_add _ _) rfl ?_ | refine wp_iinc2 (w := nI 2) (pc' := 75) rfl rfl rfl rfl rfl ?_
              refine wp_goto rfl ?_
              exact WP.cg (ih (i + 1) (decide (tv (2 * i) < 25 ∧ tv (2 * i + 1) < 2)) (by omega) (fun q => trB_two (hv0 h35) (of_decide_eq_true q).1 (of_decide_eq_true q).2) (fun q => trB_no (hv0 h35) hlt2 (of_decide_eq_false q))) (lC1 (lI1 (by first | with_reducible rfl | exact fl_1 h47 | exact fl_t (Classical.byContradiction h47) (Nat.lt_succ_of_le h63) | exact fl_2 (fun z => h63 (Nat.le_of_lt_succ z)) | rfl) (lI1 (by first | with_reducible rfl | exact fl_1 h47 | exact fl_t (Classical.byContradiction h47) (Nat.lt_succ_of_le h63) | exact fl_2 (fun z => h63 (Nat.le_of_lt_succ z)) | rfl) rfl))) rfl (by rfl)
            · intro h47
              refine wp_aload0 (pc' := 51) rfl rfl ?_
              refine wp_getRF (pc' := 54) rfl rfl (by first | exact TK.k1 hT rfl | exact TK.kk hT rfl | exact TK.r hT rfl | assumption) (by first | exact TK.k1 hT rfl | exact TK.kk hT rfl | exact TK.r hT rfl | assumption) rfl ?_
              refine wp_iload2 (pc' := 55) rfl rfl ?_
              refine wp_iconst (v := nI 1) (pc' := 56) rfl rfl rfl ?_
              first | refine wp_iaddN (pc' := 57) rfl (by with_reducible rfl) (by with_reducible rfl) rfl ?_ | refine wp_iadd (pc' := 57) rfl rfl ?_
              first | refine wp_bald _ (pc' := 58) rfl (by first | exact TK.k1 hT rfl | exact TK.kk hT rfl | exact TK.r hT rfl | assumption) (by with_reducible rfl) (by omega) (by first | decide | assumption | omega) rfl ?_ | refine wp_zald _ (pc' := 58) rfl (by first | exact TK.k1 hT rfl | exact TK.kk hT rfl | exact TK.r hT rfl | assumption) (by with_reducible rfl) (by omega) (by first | decide | assumption | omega) rfl ?_
              rw [(htp _ (by omega)).1]
              refine wp_iconst (v := nI 0) (pc' := 59) rfl rfl rfl ?_
              refine wp_iconst (v := nI 1) (pc' := 60) rfl rfl rfl ?_
              refine wp_callS3 (pc' := 63) rfl rfl rfl rfl rfl rfl ?_
              refine m_inS (by omega) (by decide) ?_
              refine Cont.v ?_
              first | refine wp_ifeqB (pc' := 66) rfl rfl ?_ ?_ | refine wp_ifeq (pc' := 66) rfl rfl ?_ ?_
              · intro h63
                refine wp_iconst (v := nI 0) (pc' := 71) rfl rfl rfl ?_
                refine wp_istore1 (pc' := 72) rfl (by first | rfl | assumption) rfl ?_
                first | refine wp_iinc2 (w := nI 2) (pc' := 75) rfl rfl rfl (by with_reducible exact nI_add _ _) rfl ?_ | refine wp_iinc2 (w := nI 2) (pc' := 75) rfl rfl rfl rfl rfl ?_
                refine wp_goto rfl ?_
                exact WP.cg (ih (i + 1) (decide (tv (2 * i) < 25 ∧ tv (2 * i + 1) < 2)) (by omega) (fun q => trB_two (hv0 h35) (of_decide_eq_true q).1 (of_decide_eq_true q).2) (fun q => trB_no (hv0 h35) hlt2 (of_decide_eq_false q))) (lC1 (lI1 (by first | with_reducible rfl | exact fl_1 h47 | exact fl_t (Classical.byContradiction h47) (Nat.lt_succ_of_le h63) | exact fl_2 (fun z => h63 (Nat.le_of_lt_succ z)) | rfl) (lI1 (by first | with_reducible rfl | exact fl_1 h47 | exact fl_t (Classical.byContradiction h47) (Nat.lt_succ_of_le h63) | exact fl_2 (fun z => h63 (Nat.le_of_lt_succ z)) | rfl) rfl))) rfl (by rfl)
              · intro h63
                refine wp_iconst (v := nI 1) (pc' := 67) rfl rfl rfl ?_
                refine wp_goto rfl ?_
                refine wp_istore1 (pc' := 72) rfl (by first | rfl | assumption) rfl ?_
                first | refine wp_iinc2 (w := nI 2) (pc' := 75) rfl rfl rfl (by with_reducible exact nI_add _ _) rfl ?_ | refine wp_iinc2 (w := nI 2) (pc' := 75) rfl rfl rfl rfl rfl ?_
                refine wp_goto rfl ?_
                exact WP.cg (ih (i + 1) (decide (tv (2 * i) < 25 ∧ tv (2 * i + 1) < 2)) (by omega) (fun q => trB_two (hv0 h35) (of_decide_eq_true q).1 (of_decide_eq_true q).2) (fun q => trB_no (hv0 h35) hlt2 (of_decide_eq_false q))) (lC1 (lI1 (by first | with_reducible rfl | exact fl_1 h47 | exact fl_t (Classical.byContradiction h47) (Nat.lt_succ_of_le h63) | exact fl_2 (fun z => h63 (Nat.le_of_lt_succ z)) | rfl) (lI1 (by first | with_reducible rfl | exact fl_1 h47 | exact fl_t (Classical.byContradiction h47) (Nat.lt_succ_of_le h63) | exact fl_2 (fun z => h63 (Nat.le_of_lt_succ z)) | rfl) rfl))) rfl (by rfl)
    exact WP.cg (lp26 (T + 2) (0) (decide (T ≤ 40 ∧ T % 2 = 0)) (by omega) (fun q => trB_z (of_decide_eq_true q)) (fun q => trB_zf (of_decide_eq_false q))) (lC1 (lI1 (by first | with_reducible rfl | exact (if_pos (decide_eq_true ⟨ge_nI h15 (by omega), eq_nI h6 (by omega) (by omega)⟩)).symm | exact (if_neg (fun q => h6 (by rw [(of_decide_eq_true q).2]))).symm | exact (if_neg (fun q => absurd (nI_lt_inv (by omega) (by omega) h15) (Nat.not_lt.mpr (of_decide_eq_true q).1))).symm | rfl) (lI1 (by first | with_reducible rfl | exact (if_pos (decide_eq_true ⟨ge_nI h15 (by omega), eq_nI h6 (by omega) (by omega)⟩)).symm | exact (if_neg (fun q => h6 (by rw [(of_decide_eq_true q).2]))).symm | exact (if_neg (fun q => absurd (nI_lt_inv (by omega) (by omega) h15) (Nat.not_lt.mpr (of_decide_eq_true q).1))).symm | rfl) rfl))) rfl (by rfl)
  · intro h6
    refine wp_aload0 (pc' := 10) rfl rfl ?_
    refine wp_getI (pc' := 13) rfl rfl (by first | exact TK.k1 hT rfl | exact TK.kk hT rfl | exact TK.r hT rfl | assumption) rfl ?_
    rw [he]
    refine wp_bipush (v := nI 40) (pc' := 15) rfl rfl rfl ?_
    refine wp_icmpgt (pc' := 18) rfl rfl ?_ ?_
    · intro h15
      refine wp_iconst (v := nI 0) (pc' := 23) rfl rfl rfl ?_
      refine wp_istore1 (pc' := 24) rfl (by first | rfl | assumption) rfl ?_
      refine wp_iconst (v := nI 0) (pc' := 25) rfl rfl rfl ?_
      refine wp_istore2 (pc' := 26) rfl (by first | rfl | assumption) rfl ?_
      have lp26 : ∀ r (i : Nat) (b : Bool), T + 2 ≤ 2 * i + r ∧ 2 * i ≤ T + 1 → (b = true → trB 25 2 tv T (2 * i) = true) → (b = false → trB 25 2 tv T T = false) → WP (d + 2) F_317 26 [.ref 318, .int (if b = true then nI 1 else nI 0), .int (nI (2 * i))] [] (K, I, L, R, n, s) Q := by
        intro r; induction r with
        | zero =>
          intro i b hi hv0 hv1
          exact absurd hi (by omega)
        | succ r ih =>
          intro i b hi hv0 hv1
          refine wp_iload2 (pc' := 27) rfl rfl ?_
          refine wp_aload0 (pc' := 28) rfl rfl ?_
          refine wp_getI (pc' := 31) rfl rfl (by first | exact TK.k1 hT rfl | exact TK.kk hT rfl | exact TK.r hT rfl | assumption) rfl ?_
          rw [he]
          refine wp_icmpge (pc' := 34) rfl rfl ?_ ?_
          · intro h31
            refine wp_iload1 (pc' := 79) rfl rfl ?_
            refine wp_iret rfl rfl (by first | rfl | exact nar_if) ?_
            first | exact Qv kk (isr_end hv0 hv1 (Or.inl (ge_nI h31 (by omega)))) rfl | exact Qv kk (isr_end hv0 hv1 (Or.inr (Bool.eq_false_iff.mpr h35))) rfl
          · intro h31
            refine wp_iload1 (pc' := 35) rfl rfl ?_
            first | refine wp_ifeqB (pc' := 38) rfl rfl ?_ ?_ | refine wp_ifeq (pc' := 38) rfl rfl ?_ ?_
            · intro h35
              refine wp_iload1 (pc' := 79) rfl rfl ?_
              refine wp_iret rfl rfl (by first | rfl | exact nar_if) ?_
              first | exact Qv kk (isr_end hv0 hv1 (Or.inl (ge_nI h31 (by omega)))) rfl | exact Qv kk (isr_end hv0 hv1 (Or.inr (Bool.eq_false_iff.mpr h35))) rfl
            · intro h35
              have hlt2 := nI_lt_inv (by omega) (by omega) h31
              have he2 := trB_40 (hv0 h35)
              have htb1 := (htp (2 * i) (by omega)).2
              have htb2 := (htp (2 * i + 1) (by omega)).2
              refine wp_aload0 (pc' := 39) rfl rfl ?_
              refine wp_getRF (pc' := 42) rfl rfl (by first | exact TK.k1 hT rfl | exact TK.kk hT rfl | exact TK.r hT rfl | assumption) (by first | exact TK.k1 hT rfl | exact TK.kk hT rfl | exact TK.r hT rfl | assumption) rfl ?_
              refine wp_iload2 (pc' := 43) rfl rfl ?_
              first | refine wp_bald _ (pc' := 44) rfl (by first | exact TK.k1 hT rfl | exact TK.kk hT rfl | exact TK.r hT rfl | assumption) (by with_reducible rfl) (by omega) (by first | decide | assumption | omega) rfl ?_ | refine wp_zald _ (pc' := 44) rfl (by first | exact TK.k1 hT rfl | exact TK.kk hT rfl | exact TK.r hT rfl | assumption) (by with_reducible rfl) (by omega) (by first | decide | assumption | omega) rfl ?_
              rw [(htp _ (by omega)).1]
              refine wp_callS1 (pc' := 47) rfl rfl rfl rfl rfl rfl ?_
              refine m_noCellS (by omega) ?_
              refine Cont.v ?_
              first | refine wp_ifneB (pc' := 50) rfl rfl ?_ ?_ | refine wp_ifne (pc' := 50) rfl rfl ?_ ?_
              · intro h47
                refine wp_iconst (v := nI 0) (pc' := 71) rfl rfl rfl ?_
                refine wp_istore1 (pc' := 72) rfl (by first | rfl | assumption) rfl ?_
                first | refine wp_iinc2 (w := nI 2) (pc' := 75) rfl rfl rfl (by with_reducible exact nI_add _ _) rfl ?_ | refine wp_iinc2 (w := nI 2) (pc' := 75) rfl rfl rfl rfl rfl ?_
                refine wp_goto rfl ?_
                exact WP.cg (ih (i + 1) (decide (tv (2 * i) < 25 ∧ tv (2 * i + 1) < 2)) (by omega) (fun q => trB_two (hv0 h35) (of_decide_eq_true q).1 (of_decide_eq_true q).2) (fun q => trB_no (hv0 h35) hlt2 (of_decide_eq_false q))) (lC1 (lI1 (by first | with_reducible rfl | exact fl_1 h47 | exact fl_t (Classical.byContradiction h47) (Nat.lt_succ_of_le h63) | exact fl_2 (fun z => h63 (Nat.le_of_lt_succ z)) | rfl) (lI1 (by first | with_reducible rfl | exact fl_1 h47 | exact fl_t (Classical.byContradiction h47) (Nat.lt_succ_of_le h63) | exact fl_2 (fun z => h63 (Nat.le_of_lt_succ z)) | rfl) rfl))) rfl (by rfl)
              · intro h47
                refine wp_aload0 (pc' := 51) rfl rfl ?_
                refine wp_getRF (pc' := 54) rfl rfl (by first | exact TK.k1 hT rfl | exact TK.kk hT rfl | exact TK.r hT rfl | assumption) (by first | exact TK.k1 hT rfl | exact TK.kk hT rfl | exact TK.r hT rfl | assumption) rfl ?_
                refine wp_iload2 (pc' := 55) rfl rfl ?_
                refine wp_iconst (v := nI 1) (pc' := 56) rfl rfl rfl ?_
                first | refine wp_iaddN (pc' := 57) rfl (by with_reducible rfl) (by with_reducible rfl) rfl ?_ | refine wp_iadd (pc' := 57) rfl rfl ?_
                first | refine wp_bald _ (pc' := 58) rfl (by first | exact TK.k1 hT rfl | exact TK.kk hT rfl | exact TK.r hT rfl | assumption) (by with_reducible rfl) (by omega) (by first | decide | assumption | omega) rfl ?_ | refine wp_zald _ (pc' := 58) rfl (by first | exact TK.k1 hT rfl | exact TK.kk hT rfl | exact TK.r hT rfl | assumption) (by with_reducible rfl) (by omega) (by first | decide | assumption | omega) rfl ?_
                rw [(htp _ (by omega)).1]
                refine wp_iconst (v := nI 0) (pc' := 59) rfl rfl rfl ?_
                refine wp_iconst (v := nI 1) (pc' := 60) rfl rfl rfl ?_
                refine wp_callS3 (pc' := 63) rfl rfl rfl rfl rfl rfl ?_
                refine m_inS (by omega) (by decide) ?_
                refine Cont.v ?_
                first | refine wp_ifeqB (pc' := 66) rfl rfl ?_ ?_ | refine wp_ifeq (pc' := 66) rfl rfl ?_ ?_
                · intro h63
                  refine wp_iconst (v := nI 0) (pc' := 71) rfl rfl rfl ?_
                  refine wp_istore1 (pc' := 72) rfl (by first | rfl | assumption) rfl ?_
                  first | refine wp_iinc2 (w := nI 2) (pc' := 75) rfl rfl rfl (by with_reducible exact nI_add _ _) rfl ?_ | refine wp_iinc2 (w := nI 2) (pc' := 75) rfl rfl rfl rfl rfl ?_
                  refine wp_goto rfl ?_
                  exact WP.cg (ih (i + 1) (decide (tv (2 * i) < 25 ∧ tv (2 * i + 1) < 2)) (by omega) (fun q => trB_two (hv0 h35) (of_decide_eq_true q).1 (of_decide_eq_true q).2) (fun q => trB_no (hv0 h35) hlt2 (of_decide_eq_false q))) (lC1 (lI1 (by first | with_reducible rfl | exact fl_1 h47 | exact fl_t (Classical.byContradiction h47) (Nat.lt_succ_of_le h63) | exact fl_2 (fun z => h63 (Nat.le_of_lt_succ z)) | rfl) (lI1 (by first | with_reducible rfl | exact fl_1 h47 | exact fl_t (Classical.byContradiction h47) (Nat.lt_succ_of_le h63) | exact fl_2 (fun z => h63 (Nat.le_of_lt_succ z)) | rfl) rfl))) rfl (by rfl)
                · intro h63
                  refine wp_iconst (v := nI 1) (pc' := 67) rfl rfl rfl ?_
                  refine wp_goto rfl ?_
                  refine wp_istore1 (pc' := 72) rfl (by first | rfl | assumption) rfl ?_
                  first | refine wp_iinc2 (w := nI 2) (pc' := 75) rfl rfl rfl (by with_reducible exact nI_add _ _) rfl ?_ | refine wp_iinc2 (w := nI 2) (pc' := 75) rfl rfl rfl rfl rfl ?_
                  refine wp_goto rfl ?_
                  exact WP.cg (ih (i + 1) (decide (tv (2 * i) < 25 ∧ tv (2 * i + 1) < 2)) (by omega) (fun q => trB_two (hv0 h35) (of_decide_eq_true q).1 (of_decide_eq_true q).2) (fun q => trB_no (hv0 h35) hlt2 (of_decide_eq_false q))) (lC1 (lI1 (by first | with_reducible rfl | exact fl_1 h47 | exact fl_t (Classical.byContradiction h47) (Nat.lt_succ_of_le h63) | exact fl_2 (fun z => h63 (Nat.le_of_lt_succ z)) | rfl) (lI1 (by first | with_reducible rfl | exact fl_1 h47 | exact fl_t (Classical.byContradiction h47) (Nat.lt_succ_of_le h63) | exact fl_2 (fun z => h63 (Nat.le_of_lt_succ z)) | rfl) rfl))) rfl (by rfl)
      exact WP.cg (lp26 (T + 2) (0) (decide (T ≤ 40 ∧ T % 2 = 0)) (by omega) (fun q => trB_z (of_decide_eq_true q)) (fun q => trB_zf (of_decide_eq_false q))) (lC1 (lI1 (by first | with_reducible rfl | exact (if_pos (decide_eq_true ⟨ge_nI h15 (by omega), eq_nI h6 (by omega) (by omega)⟩)).symm | exact (if_neg (fun q => h6 (by rw [(of_decide_eq_true q).2]))).symm | exact (if_neg (fun q => absurd (nI_lt_inv (by omega) (by omega) h15) (Nat.not_lt.mpr (of_decide_eq_true q).1))).symm | rfl) (lI1 (by first | with_reducible rfl | exact (if_pos (decide_eq_true ⟨ge_nI h15 (by omega), eq_nI h6 (by omega) (by omega)⟩)).symm | exact (if_neg (fun q => h6 (by rw [(of_decide_eq_true q).2]))).symm | exact (if_neg (fun q => absurd (nI_lt_inv (by omega) (by omega) h15) (Nat.not_lt.mpr (of_decide_eq_true q).1))).symm | rfl) rfl))) rfl (by rfl)
    · intro h15
      refine wp_iconst (v := nI 1) (pc' := 19) rfl rfl rfl ?_
      refine wp_goto rfl ?_
      refine wp_istore1 (pc' := 24) rfl (by first | rfl | assumption) rfl ?_
      refine wp_iconst (v := nI 0) (pc' := 25) rfl rfl rfl ?_
      refine wp_istore2 (pc' := 26) rfl (by first | rfl | assumption) rfl ?_
      have lp26 : ∀ r (i : Nat) (b : Bool), T + 2 ≤ 2 * i + r ∧ 2 * i ≤ T + 1 → (b = true → trB 25 2 tv T (2 * i) = true) → (b = false → trB 25 2 tv T T = false) → WP (d + 2) F_317 26 [.ref 318, .int (if b = true then nI 1 else nI 0), .int (nI (2 * i))] [] (K, I, L, R, n, s) Q := by
        intro r; induction r with
        | zero =>
          intro i b hi hv0 hv1
          exact absurd hi (by omega)
        | succ r ih =>
          intro i b hi hv0 hv1
          refine wp_iload2 (pc' := 27) rfl rfl ?_
          refine wp_aload0 (pc' := 28) rfl rfl ?_
          refine wp_getI (pc' := 31) rfl rfl (by first | exact TK.k1 hT rfl | exact TK.kk hT rfl | exact TK.r hT rfl | assumption) rfl ?_
          rw [he]
          refine wp_icmpge (pc' := 34) rfl rfl ?_ ?_
          · intro h31
            refine wp_iload1 (pc' := 79) rfl rfl ?_
            refine wp_iret rfl rfl (by first | rfl | exact nar_if) ?_
            first | exact Qv kk (isr_end hv0 hv1 (Or.inl (ge_nI h31 (by omega)))) rfl | exact Qv kk (isr_end hv0 hv1 (Or.inr (Bool.eq_false_iff.mpr h35))) rfl
          · intro h31
            refine wp_iload1 (pc' := 35) rfl rfl ?_
            first | refine wp_ifeqB (pc' := 38) rfl rfl ?_ ?_ | refine wp_ifeq (pc' := 38) rfl rfl ?_ ?_
            · intro h35
              refine wp_iload1 (pc' := 79) rfl rfl ?_
              refine wp_iret rfl rfl (by first | rfl | exact nar_if) ?_
              first | exact Qv kk (isr_end hv0 hv1 (Or.inl (ge_nI h31 (by omega)))) rfl | exact Qv kk (isr_end hv0 hv1 (Or.inr (Bool.eq_false_iff.mpr h35))) rfl
            · intro h35
              have hlt2 := nI_lt_inv (by omega) (by omega) h31
              have he2 := trB_40 (hv0 h35)
              have htb1 := (htp (2 * i) (by omega)).2
              have htb2 := (htp (2 * i + 1) (by omega)).2
              refine wp_aload0 (pc' := 39) rfl rfl ?_
              refine wp_getRF (pc' := 42) rfl rfl (by first | exact TK.k1 hT rfl | exact TK.kk hT rfl | exact TK.r hT rfl | assumption) (by first | exact TK.k1 hT rfl | exact TK.kk hT rfl | exact TK.r hT rfl | assumption) rfl ?_
              refine wp_iload2 (pc' := 43) rfl rfl ?_
              first | refine wp_bald _ (pc' := 44) rfl (by first | exact TK.k1 hT rfl | exact TK.kk hT rfl | exact TK.r hT rfl | assumption) (by with_reducible rfl) (by omega) (by first | decide | assumption | omega) rfl ?_ | refine wp_zald _ (pc' := 44) rfl (by first | exact TK.k1 hT rfl | exact TK.kk hT rfl | exact TK.r hT rfl | assumption) (by with_reducible rfl) (by omega) (by first | decide | assumption | omega) rfl ?_
              rw [(htp _ (by omega)).1]
              refine wp_callS1 (pc' := 47) rfl rfl rfl rfl rfl rfl ?_
              refine m_noCellS (by omega) ?_
              refine Cont.v ?_
              first | refine wp_ifneB (pc' := 50) rfl rfl ?_ ?_ | refine wp_ifne (pc' := 50) rfl rfl ?_ ?_
              · intro h47
                refine wp_iconst (v := nI 0) (pc' := 71) rfl rfl rfl ?_
                refine wp_istore1 (pc' := 72) rfl (by first | rfl | assumption) rfl ?_
                first | refine wp_iinc2 (w := nI 2) (pc' := 75) rfl rfl rfl (by with_reducible exact nI_add _ _) rfl ?_ | refine wp_iinc2 (w := nI 2) (pc' := 75) rfl rfl rfl rfl rfl ?_
                refine wp_goto rfl ?_
                exact WP.cg (ih (i + 1) (decide (tv (2 * i) < 25 ∧ tv (2 * i + 1) < 2)) (by omega) (fun q => trB_two (hv0 h35) (of_decide_eq_true q).1 (of_decide_eq_true q).2) (fun q => trB_no (hv0 h35) hlt2 (of_decide_eq_false q))) (lC1 (lI1 (by first | with_reducible rfl | exact fl_1 h47 | exact fl_t (Classical.byContradiction h47) (Nat.lt_succ_of_le h63) | exact fl_2 (fun z => h63 (Nat.le_of_lt_succ z)) | rfl) (lI1 (by first | with_reducible rfl | exact fl_1 h47 | exact fl_t (Classical.byContradiction h47) (Nat.lt_succ_of_le h63) | exact fl_2 (fun z => h63 (Nat.le_of_lt_succ z)) | rfl) rfl))) rfl (by rfl)
              · intro h47
                refine wp_aload0 (pc' := 51) rfl rfl ?_
                refine wp_getRF (pc' := 54) rfl rfl (by first | exact TK.k1 hT rfl | exact TK.kk hT rfl | exact TK.r hT rfl | assumption) (by first | exact TK.k1 hT rfl | exact TK.kk hT rfl | exact TK.r hT rfl | assumption) rfl ?_
                refine wp_iload2 (pc' := 55) rfl rfl ?_
                refine wp_iconst (v := nI 1) (pc' := 56) rfl rfl rfl ?_
                first | refine wp_iaddN (pc' := 57) rfl (by with_reducible rfl) (by with_reducible rfl) rfl ?_ | refine wp_iadd (pc' := 57) rfl rfl ?_
                first | refine wp_bald _ (pc' := 58) rfl (by first | exact TK.k1 hT rfl | exact TK.kk hT rfl | exact TK.r hT rfl | assumption) (by with_reducible rfl) (by omega) (by first | decide | assumption | omega) rfl ?_ | refine wp_zald _ (pc' := 58) rfl (by first | exact TK.k1 hT rfl | exact TK.kk hT rfl | exact TK.r hT rfl | assumption) (by with_reducible rfl) (by omega) (by first | decide | assumption | omega) rfl ?_
                rw [(htp _ (by omega)).1]
                refine wp_iconst (v := nI 0) (pc' := 59) rfl rfl rfl ?_
                refine wp_iconst (v := nI 1) (pc' := 60) rfl rfl rfl ?_
                refine wp_callS3 (pc' := 63) rfl rfl rfl rfl rfl rfl ?_
                refine m_inS (by omega) (by decide) ?_
                refine Cont.v ?_
                first | refine wp_ifeqB (pc' := 66) rfl rfl ?_ ?_ | refine wp_ifeq (pc' := 66) rfl rfl ?_ ?_
                · intro h63
                  refine wp_iconst (v := nI 0) (pc' := 71) rfl rfl rfl ?_
                  refine wp_istore1 (pc' := 72) rfl (by first | rfl | assumption) rfl ?_
                  first | refine wp_iinc2 (w := nI 2) (pc' := 75) rfl rfl rfl (by with_reducible exact nI_add _ _) rfl ?_ | refine wp_iinc2 (w := nI 2) (pc' := 75) rfl rfl rfl rfl rfl ?_
                  refine wp_goto rfl ?_
                  exact WP.cg (ih (i + 1) (decide (tv (2 * i) < 25 ∧ tv (2 * i + 1) < 2)) (by omega) (fun q => trB_two (hv0 h35) (of_decide_eq_true q).1 (of_decide_eq_true q).2) (fun q => trB_no (hv0 h35) hlt2 (of_decide_eq_false q))) (lC1 (lI1 (by first | with_reducible rfl | exact fl_1 h47 | exact fl_t (Classical.byContradiction h47) (Nat.lt_succ_of_le h63) | exact fl_2 (fun z => h63 (Nat.le_of_lt_succ z)) | rfl) (lI1 (by first | with_reducible rfl | exact fl_1 h47 | exact fl_t (Classical.byContradiction h47) (Nat.lt_succ_of_le h63) | exact fl_2 (fun z => h63 (Nat.le_of_lt_succ z)) | rfl) rfl))) rfl (by rfl)
                · intro h63
                  refine wp_iconst (v := nI 1) (pc' := 67) rfl rfl rfl ?_
                  refine wp_goto rfl ?_
                  refine wp_istore1 (pc' := 72) rfl (by first | rfl | assumption) rfl ?_
                  first | refine wp_iinc2 (w := nI 2) (pc' := 75) rfl rfl rfl (by with_reducible exact nI_add _ _) rfl ?_ | refine wp_iinc2 (w := nI 2) (pc' := 75) rfl rfl rfl rfl rfl ?_
                  refine wp_goto rfl ?_
                  exact WP.cg (ih (i + 1) (decide (tv (2 * i) < 25 ∧ tv (2 * i + 1) < 2)) (by omega) (fun q => trB_two (hv0 h35) (of_decide_eq_true q).1 (of_decide_eq_true q).2) (fun q => trB_no (hv0 h35) hlt2 (of_decide_eq_false q))) (lC1 (lI1 (by first | with_reducible rfl | exact fl_1 h47 | exact fl_t (Classical.byContradiction h47) (Nat.lt_succ_of_le h63) | exact fl_2 (fun z => h63 (Nat.le_of_lt_succ z)) | rfl) (lI1 (by first | with_reducible rfl | exact fl_1 h47 | exact fl_t (Classical.byContradiction h47) (Nat.lt_succ_of_le h63) | exact fl_2 (fun z => h63 (Nat.le_of_lt_succ z)) | rfl) rfl))) rfl (by rfl)
      exact WP.cg (lp26 (T + 2) (0) (decide (T ≤ 40 ∧ T % 2 = 0)) (by omega) (fun q => trB_z (of_decide_eq_true q)) (fun q => trB_zf (of_decide_eq_false q))) (lC1 (lI1 (by first | with_reducible rfl | exact (if_pos (decide_eq_true ⟨ge_nI h15 (by omega), eq_nI h6 (by omega) (by omega)⟩)).symm | exact (if_neg (fun q => h6 (by rw [(of_decide_eq_true q).2]))).symm | exact (if_neg (fun q => absurd (nI_lt_inv (by omega) (by omega) h15) (Nat.not_lt.mpr (of_decide_eq_true q).1))).symm | rfl) (lI1 (by first | with_reducible rfl | exact (if_pos (decide_eq_true ⟨ge_nI h15 (by omega), eq_nI h6 (by omega) (by omega)⟩)).symm | exact (if_neg (fun q => h6 (by rw [(of_decide_eq_true q).2]))).symm | exact (if_neg (fun q => absurd (nI_lt_inv (by omega) (by omega) h15) (Nat.not_lt.mpr (of_decide_eq_true q).1))).symm | rfl) rfl))) rfl (by rfl)
theorem m_isFalls {d : Nat} {K : Nat → Nat × Nat} {I : Nat → Nat → Int32} {L : Nat → Nat → Int64} {R : Nat → Nat → Option Nat} {n s : Nat} {Q : Lo → Lm → Prop} {T : Nat} {tv : Nat → Nat} (hT : TK K R n) (he : I 318 11 = nI T) (hT4 : T ≤ 400) (htp : TpW (I 324) tv) (kk : Q (.inl (some (.int (if trB 100 10 tv T T = true then nI 1 else nI 0)))) (K, I, L, R, n, s)) : Ok (d + 3) 324 [.ref 318] (K, I, L, R, n, s) Q := by
  obtain ⟨-, -, hn⟩ := id hT
  refine Ok.enter (F := F_324) (ls := [.ref 318, lDead, lDead]) rfl rfl ?_
  refine wp_aload0 (pc' := 1) rfl rfl ?_
  refine wp_getI (pc' := 4) rfl rfl (by first | exact TK.k1 hT rfl | exact TK.kk hT rfl | exact TK.r hT rfl | assumption) rfl ?_
  rw [he]
  refine wp_iconst (v := nI 2) (pc' := 5) rfl rfl rfl ?_
  first | refine wp_iremN (pc' := 6) rfl (by with_reducible rfl) (by with_reducible rfl) (by omega) (by omega) (by omega) rfl ?_ | refine wp_irem (pc' := 6) rfl (by decide) rfl ?_
  first | refine wp_ifneB (pc' := 9) rfl rfl ?_ ?_ | refine wp_ifne (pc' := 9) rfl rfl ?_ ?_
  · intro h6
    refine wp_iconst (v := nI 0) (pc' := 23) rfl rfl rfl ?_
    refine wp_istore1 (pc' := 24) rfl (by first | rfl | assumption) rfl ?_
    refine wp_iconst (v := nI 0) (pc' := 25) rfl rfl rfl ?_
    refine wp_istore2 (pc' := 26) rfl (by first | rfl | assumption) rfl ?_
    have lp26 : ∀ r (i : Nat) (b : Bool), T + 2 ≤ 2 * i + r ∧ 2 * i ≤ T + 1 → (b = true → trB 100 10 tv T (2 * i) = true) → (b = false → trB 100 10 tv T T = false) → WP (d + 2) F_324 26 [.ref 318, .int (if b = true then nI 1 else nI 0), .int (nI (2 * i))] [] (K, I, L, R, n, s) Q := by
      intro r; induction r with
      | zero =>
        intro i b hi hv0 hv1
        exact absurd hi (by omega)
      | succ r ih =>
        intro i b hi hv0 hv1
        refine wp_iload2 (pc' := 27) rfl rfl ?_
        refine wp_aload0 (pc' := 28) rfl rfl ?_
        refine wp_getI (pc' := 31) rfl rfl (by first | exact TK.k1 hT rfl | exact TK.kk hT rfl | exact TK.r hT rfl | assumption) rfl ?_
        rw [he]
        refine wp_icmpge (pc' := 34) rfl rfl ?_ ?_
        · intro h31
          refine wp_iload1 (pc' := 83) rfl rfl ?_
          refine wp_iret rfl rfl (by first | rfl | exact nar_if) ?_
          first | exact Qv kk (isr_end hv0 hv1 (Or.inl (ge_nI h31 (by omega)))) rfl | exact Qv kk (isr_end hv0 hv1 (Or.inr (Bool.eq_false_iff.mpr h35))) rfl
        · intro h31
          refine wp_iload1 (pc' := 35) rfl rfl ?_
          first | refine wp_ifeqB (pc' := 38) rfl rfl ?_ ?_ | refine wp_ifeq (pc' := 38) rfl rfl ?_ ?_
          · intro h35
            refine wp_iload1 (pc' := 83) rfl rfl ?_
            refine wp_iret rfl rfl (by first | rfl | exact nar_if) ?_
            first | exact Qv kk (isr_end hv0 hv1 (Or.inl (ge_nI h31 (by omega)))) rfl | exact Qv kk (isr_end hv0 hv1 (Or.inr (Bool.eq_false_iff.mpr h35))) rfl
          · intro h35
            have hlt2 := nI_lt_inv (by omega) (by omega) h31
            have he2 := trB_40 (hv0 h35)
            have htb1 := (htp (2 * i) (by omega)).2
            have htb2 := (htp (2 * i + 1) (by omega)).2
            refine wp_aload0 (pc' := 39) rfl rfl ?_
            refine wp_getRF (pc' := 42) rfl rfl (by first | exact TK.k1 hT rfl | exact TK.kk hT rfl | exact TK.r hT rfl | assumption) (by first | exact TK.k1 hT rfl | exact TK.kk hT rfl | exact TK.r hT rfl | assumption) rfl ?_
            refine wp_iload2 (pc' := 43) rfl rfl ?_
            first | refine wp_bald _ (pc' := 44) rfl (by first | exact TK.k1 hT rfl | exact TK.kk hT rfl | exact TK.r hT rfl | assumption) (by with_reducible rfl) (by omega) (by first | decide | assumption | omega) rfl ?_ | refine wp_zald _ (pc' := 44) rfl (by first | exact TK.k1 hT rfl | exact TK.kk hT rfl | exact TK.r hT rfl | assumption) (by with_reducible rfl) (by omega) (by first | decide | assumption | omega) rfl ?_
            rw [(htp _ (by omega)).1]
            refine wp_iconst (v := nI 0) (pc' := 45) rfl rfl rfl ?_
            refine wp_bipush (v := nI 99) (pc' := 47) rfl rfl rfl ?_
            refine wp_callS3 (pc' := 50) rfl rfl rfl rfl rfl rfl ?_
            refine m_inS (by omega) (by decide) ?_
            refine Cont.v ?_
            first | refine wp_ifeqB (pc' := 53) rfl rfl ?_ ?_ | refine wp_ifeq (pc' := 53) rfl rfl ?_ ?_
            · intro h50
              refine wp_iconst (v := nI 0) (pc' := 75) rfl rfl rfl ?_
              refine wp_istore1 (pc' := 76) rfl (by first | rfl | assumption) rfl ?_
              first | refine wp_iinc2 (w := nI 2) (pc' := 79) rfl rfl rfl (by with_reducible exact nI_add _ _) rfl ?_ | refine wp_iinc2 (w := nI 2) (pc' := 79) rfl rfl rfl rfl rfl ?_
              refine wp_goto rfl ?_
              exact WP.cg (ih (i + 1) (decide (tv (2 * i) < 100 ∧ tv (2 * i + 1) < 10)) (by omega) (fun q => trB_two (hv0 h35) (of_decide_eq_true q).1 (of_decide_eq_true q).2) (fun q => trB_no (hv0 h35) hlt2 (of_decide_eq_false q))) (lC1 (lI1 (by first | with_reducible rfl | exact fl_t (Nat.lt_succ_of_le h50) (Nat.lt_succ_of_le h67) | exact fl_1 (fun z => h50 (Nat.le_of_lt_succ z)) | exact fl_2 (fun z => h67 (Nat.le_of_lt_succ z)) | rfl) (lI1 (by first | with_reducible rfl | exact fl_t (Nat.lt_succ_of_le h50) (Nat.lt_succ_of_le h67) | exact fl_1 (fun z => h50 (Nat.le_of_lt_succ z)) | exact fl_2 (fun z => h67 (Nat.le_of_lt_succ z)) | rfl) rfl))) rfl (by rfl)
            · intro h50
              refine wp_aload0 (pc' := 54) rfl rfl ?_
              refine wp_getRF (pc' := 57) rfl rfl (by first | exact TK.k1 hT rfl | exact TK.kk hT rfl | exact TK.r hT rfl | assumption) (by first | exact TK.k1 hT rfl | exact TK.kk hT rfl | exact TK.r hT rfl | assumption) rfl ?_
              refine wp_iload2 (pc' := 58) rfl rfl ?_
              refine wp_iconst (v := nI 1) (pc' := 59) rfl rfl rfl ?_
              first | refine wp_iaddN (pc' := 60) rfl (by with_reducible rfl) (by with_reducible rfl) rfl ?_ | refine wp_iadd (pc' := 60) rfl rfl ?_
              first | refine wp_bald _ (pc' := 61) rfl (by first | exact TK.k1 hT rfl | exact TK.kk hT rfl | exact TK.r hT rfl | assumption) (by with_reducible rfl) (by omega) (by first | decide | assumption | omega) rfl ?_ | refine wp_zald _ (pc' := 61) rfl (by first | exact TK.k1 hT rfl | exact TK.kk hT rfl | exact TK.r hT rfl | assumption) (by with_reducible rfl) (by omega) (by first | decide | assumption | omega) rfl ?_
              rw [(htp _ (by omega)).1]
              refine wp_iconst (v := nI 0) (pc' := 62) rfl rfl rfl ?_
              refine wp_bipush (v := nI 9) (pc' := 64) rfl rfl rfl ?_
              refine wp_callS3 (pc' := 67) rfl rfl rfl rfl rfl rfl ?_
              refine m_inS (by omega) (by decide) ?_
              refine Cont.v ?_
              first | refine wp_ifeqB (pc' := 70) rfl rfl ?_ ?_ | refine wp_ifeq (pc' := 70) rfl rfl ?_ ?_
              · intro h67
                refine wp_iconst (v := nI 0) (pc' := 75) rfl rfl rfl ?_
                refine wp_istore1 (pc' := 76) rfl (by first | rfl | assumption) rfl ?_
                first | refine wp_iinc2 (w := nI 2) (pc' := 79) rfl rfl rfl (by with_reducible exact nI_add _ _) rfl ?_ | refine wp_iinc2 (w := nI 2) (pc' := 79) rfl rfl rfl rfl rfl ?_
                refine wp_goto rfl ?_
                exact WP.cg (ih (i + 1) (decide (tv (2 * i) < 100 ∧ tv (2 * i + 1) < 10)) (by omega) (fun q => trB_two (hv0 h35) (of_decide_eq_true q).1 (of_decide_eq_true q).2) (fun q => trB_no (hv0 h35) hlt2 (of_decide_eq_false q))) (lC1 (lI1 (by first | with_reducible rfl | exact fl_t (Nat.lt_succ_of_le h50) (Nat.lt_succ_of_le h67) | exact fl_1 (fun z => h50 (Nat.le_of_lt_succ z)) | exact fl_2 (fun z => h67 (Nat.le_of_lt_succ z)) | rfl) (lI1 (by first | with_reducible rfl | exact fl_t (Nat.lt_succ_of_le h50) (Nat.lt_succ_of_le h67) | exact fl_1 (fun z => h50 (Nat.le_of_lt_succ z)) | exact fl_2 (fun z => h67 (Nat.le_of_lt_succ z)) | rfl) rfl))) rfl (by rfl)
              · intro h67
                refine wp_iconst (v := nI 1) (pc' := 71) rfl rfl rfl ?_
                refine wp_goto rfl ?_
                refine wp_istore1 (pc' := 76) rfl (by first | rfl | assumption) rfl ?_
                first | refine wp_iinc2 (w := nI 2) (pc' := 79) rfl rfl rfl (by with_reducible exact nI_add _ _) rfl ?_ | refine wp_iinc2 (w := nI 2) (pc' := 79) rfl rfl rfl rfl rfl ?_
                refine wp_goto rfl ?_
                exact WP.cg (ih (i + 1) (decide (tv (2 * i) < 100 ∧ tv (2 * i + 1) < 10)) (by omega) (fun q => trB_two (hv0 h35) (of_decide_eq_true q).1 (of_decide_eq_true q).2) (fun q => trB_no (hv0 h35) hlt2 (of_decide_eq_false q))) (lC1 (lI1 (by first | with_reducible rfl | exact fl_t (Nat.lt_succ_of_le h50) (Nat.lt_succ_of_le h67) | exact fl_1 (fun z => h50 (Nat.le_of_lt_succ z)) | exact fl_2 (fun z => h67 (Nat.le_of_lt_succ z)) | rfl) (lI1 (by first | with_reducible rfl | exact fl_t (Nat.lt_succ_of_le h50) (Nat.lt_succ_of_le h67) | exact fl_1 (fun z => h50 (Nat.le_of_lt_succ z)) | exact fl_2 (fun z => h67 (Nat.le_of_lt_succ z)) | rfl) rfl))) rfl (by rfl)
    exact WP.cg (lp26 (T + 2) (0) (decide (T ≤ 40 ∧ T % 2 = 0)) (by omega) (fun q => trB_z (of_decide_eq_true q)) (fun q => trB_zf (of_decide_eq_false q))) (lC1 (lI1 (by first | with_reducible rfl | exact (if_pos (decide_eq_true ⟨ge_nI h15 (by omega), eq_nI h6 (by omega) (by omega)⟩)).symm | exact (if_neg (fun q => h6 (by rw [(of_decide_eq_true q).2]))).symm | exact (if_neg (fun q => absurd (nI_lt_inv (by omega) (by omega) h15) (Nat.not_lt.mpr (of_decide_eq_true q).1))).symm | rfl) (lI1 (by first | with_reducible rfl | exact (if_pos (decide_eq_true ⟨ge_nI h15 (by omega), eq_nI h6 (by omega) (by omega)⟩)).symm | exact (if_neg (fun q => h6 (by rw [(of_decide_eq_true q).2]))).symm | exact (if_neg (fun q => absurd (nI_lt_inv (by omega) (by omega) h15) (Nat.not_lt.mpr (of_decide_eq_true q).1))).symm | rfl) rfl))) rfl (by rfl)
  · intro h6
    refine wp_aload0 (pc' := 10) rfl rfl ?_
    refine wp_getI (pc' := 13) rfl rfl (by first | exact TK.k1 hT rfl | exact TK.kk hT rfl | exact TK.r hT rfl | assumption) rfl ?_
    rw [he]
    refine wp_bipush (v := nI 40) (pc' := 15) rfl rfl rfl ?_
    refine wp_icmpgt (pc' := 18) rfl rfl ?_ ?_
    · intro h15
      refine wp_iconst (v := nI 0) (pc' := 23) rfl rfl rfl ?_
      refine wp_istore1 (pc' := 24) rfl (by first | rfl | assumption) rfl ?_
      refine wp_iconst (v := nI 0) (pc' := 25) rfl rfl rfl ?_
      refine wp_istore2 (pc' := 26) rfl (by first | rfl | assumption) rfl ?_
      have lp26 : ∀ r (i : Nat) (b : Bool), T + 2 ≤ 2 * i + r ∧ 2 * i ≤ T + 1 → (b = true → trB 100 10 tv T (2 * i) = true) → (b = false → trB 100 10 tv T T = false) → WP (d + 2) F_324 26 [.ref 318, .int (if b = true then nI 1 else nI 0), .int (nI (2 * i))] [] (K, I, L, R, n, s) Q := by
        intro r; induction r with
        | zero =>
          intro i b hi hv0 hv1
          exact absurd hi (by omega)
        | succ r ih =>
          intro i b hi hv0 hv1
          refine wp_iload2 (pc' := 27) rfl rfl ?_
          refine wp_aload0 (pc' := 28) rfl rfl ?_
          refine wp_getI (pc' := 31) rfl rfl (by first | exact TK.k1 hT rfl | exact TK.kk hT rfl | exact TK.r hT rfl | assumption) rfl ?_
          rw [he]
          refine wp_icmpge (pc' := 34) rfl rfl ?_ ?_
          · intro h31
            refine wp_iload1 (pc' := 83) rfl rfl ?_
            refine wp_iret rfl rfl (by first | rfl | exact nar_if) ?_
            first | exact Qv kk (isr_end hv0 hv1 (Or.inl (ge_nI h31 (by omega)))) rfl | exact Qv kk (isr_end hv0 hv1 (Or.inr (Bool.eq_false_iff.mpr h35))) rfl
          · intro h31
            refine wp_iload1 (pc' := 35) rfl rfl ?_
            first | refine wp_ifeqB (pc' := 38) rfl rfl ?_ ?_ | refine wp_ifeq (pc' := 38) rfl rfl ?_ ?_
            · intro h35
              refine wp_iload1 (pc' := 83) rfl rfl ?_
              refine wp_iret rfl rfl (by first | rfl | exact nar_if) ?_
              first | exact Qv kk (isr_end hv0 hv1 (Or.inl (ge_nI h31 (by omega)))) rfl | exact Qv kk (isr_end hv0 hv1 (Or.inr (Bool.eq_false_iff.mpr h35))) rfl
            · intro h35
              have hlt2 := nI_lt_inv (by omega) (by omega) h31
              have he2 := trB_40 (hv0 h35)
              have htb1 := (htp (2 * i) (by omega)).2
              have htb2 := (htp (2 * i + 1) (by omega)).2
              refine wp_aload0 (pc' := 39) rfl rfl ?_
              refine wp_getRF (pc' := 42) rfl rfl (by first | exact TK.k1 hT rfl | exact TK.kk hT rfl | exact TK.r hT rfl | assumption) (by first | exact TK.k1 hT rfl | exact TK.kk hT rfl | exact TK.r hT rfl | assumption) rfl ?_
              refine wp_iload2 (pc' := 43) rfl rfl ?_
              first | refine wp_bald _ (pc' := 44) rfl (by first | exact TK.k1 hT rfl | exact TK.kk hT rfl | exact TK.r hT rfl | assumption) (by with_reducible rfl) (by omega) (by first | decide | assumption | omega) rfl ?_ | refine wp_zald _ (pc' := 44) rfl (by first | exact TK.k1 hT rfl | exact TK.kk hT rfl | exact TK.r hT rfl | assumption) (by with_reducible rfl) (by omega) (by first | decide | assumption | omega) rfl ?_
              rw [(htp _ (by omega)).1]
              refine wp_iconst (v := nI 0) (pc' := 45) rfl rfl rfl ?_
              refine wp_bipush (v := nI 99) (pc' := 47) rfl rfl rfl ?_
              refine wp_callS3 (pc' := 50) rfl rfl rfl rfl rfl rfl ?_
              refine m_inS (by omega) (by decide) ?_
              refine Cont.v ?_
              first | refine wp_ifeqB (pc' := 53) rfl rfl ?_ ?_ | refine wp_ifeq (pc' := 53) rfl rfl ?_ ?_
              · intro h50
                refine wp_iconst (v := nI 0) (pc' := 75) rfl rfl rfl ?_
                refine wp_istore1 (pc' := 76) rfl (by first | rfl | assumption) rfl ?_
                first | refine wp_iinc2 (w := nI 2) (pc' := 79) rfl rfl rfl (by with_reducible exact nI_add _ _) rfl ?_ | refine wp_iinc2 (w := nI 2) (pc' := 79) rfl rfl rfl rfl rfl ?_
                refine wp_goto rfl ?_
                exact WP.cg (ih (i + 1) (decide (tv (2 * i) < 100 ∧ tv (2 * i + 1) < 10)) (by omega) (fun q => trB_two (hv0 h35) (of_decide_eq_true q).1 (of_decide_eq_true q).2) (fun q => trB_no (hv0 h35) hlt2 (of_decide_eq_false q))) (lC1 (lI1 (by first | with_reducible rfl | exact fl_t (Nat.lt_succ_of_le h50) (Nat.lt_succ_of_le h67) | exact fl_1 (fun z => h50 (Nat.le_of_lt_succ z)) | exact fl_2 (fun z => h67 (Nat.le_of_lt_succ z)) | rfl) (lI1 (by first | with_reducible rfl | exact fl_t (Nat.lt_succ_of_le h50) (Nat.lt_succ_of_le h67) | exact fl_1 (fun z => h50 (Nat.le_of_lt_succ z)) | exact fl_2 (fun z => h67 (Nat.le_of_lt_succ z)) | rfl) rfl))) rfl (by rfl)
              · intro h50
                refine wp_aload0 (pc' := 54) rfl rfl ?_
                refine wp_getRF (pc' := 57) rfl rfl (by first | exact TK.k1 hT rfl | exact TK.kk hT rfl | exact TK.r hT rfl | assumption) (by first | exact TK.k1 hT rfl | exact TK.kk hT rfl | exact TK.r hT rfl | assumption) rfl ?_
                refine wp_iload2 (pc' := 58) rfl rfl ?_
                refine wp_iconst (v := nI 1) (pc' := 59) rfl rfl rfl ?_
                first | refine wp_iaddN (pc' := 60) rfl (by with_reducible rfl) (by with_reducible rfl) rfl ?_ | refine wp_iadd (pc' := 60) rfl rfl ?_
                first | refine wp_bald _ (pc' := 61) rfl (by first | exact TK.k1 hT rfl | exact TK.kk hT rfl | exact TK.r hT rfl | assumption) (by with_reducible rfl) (by omega) (by first | decide | assumption | omega) rfl ?_ | refine wp_zald _ (pc' := 61) rfl (by first | exact TK.k1 hT rfl | exact TK.kk hT rfl | exact TK.r hT rfl | assumption) (by with_reducible rfl) (by omega) (by first | decide | assumption | omega) rfl ?_
                rw [(htp _ (by omega)).1]
                refine wp_iconst (v := nI 0) (pc' := 62) rfl rfl rfl ?_
                refine wp_bipush (v := nI 9) (pc' := 64) rfl rfl rfl ?_
                refine wp_callS3 (pc' := 67) rfl rfl rfl rfl rfl rfl ?_
                refine m_inS (by omega) (by decide) ?_
                refine Cont.v ?_
                first | refine wp_ifeqB (pc' := 70) rfl rfl ?_ ?_ | refine wp_ifeq (pc' := 70) rfl rfl ?_ ?_
                · intro h67
                  refine wp_iconst (v := nI 0) (pc' := 75) rfl rfl rfl ?_
                  refine wp_istore1 (pc' := 76) rfl (by first | rfl | assumption) rfl ?_
                  first | refine wp_iinc2 (w := nI 2) (pc' := 79) rfl rfl rfl (by with_reducible exact nI_add _ _) rfl ?_ | refine wp_iinc2 (w := nI 2) (pc' := 79) rfl rfl rfl rfl rfl ?_
                  refine wp_goto rfl ?_
                  exact WP.cg (ih (i + 1) (decide (tv (2 * i) < 100 ∧ tv (2 * i + 1) < 10)) (by omega) (fun q => trB_two (hv0 h35) (of_decide_eq_true q).1 (of_decide_eq_true q).2) (fun q => trB_no (hv0 h35) hlt2 (of_decide_eq_false q))) (lC1 (lI1 (by first | with_reducible rfl | exact fl_t (Nat.lt_succ_of_le h50) (Nat.lt_succ_of_le h67) | exact fl_1 (fun z => h50 (Nat.le_of_lt_succ z)) | exact fl_2 (fun z => h67 (Nat.le_of_lt_succ z)) | rfl) (lI1 (by first | with_reducible rfl | exact fl_t (Nat.lt_succ_of_le h50) (Nat.lt_succ_of_le h67) | exact fl_1 (fun z => h50 (Nat.le_of_lt_succ z)) | exact fl_2 (fun z => h67 (Nat.le_of_lt_succ z)) | rfl) rfl))) rfl (by rfl)
                · intro h67
                  refine wp_iconst (v := nI 1) (pc' := 71) rfl rfl rfl ?_
                  refine wp_goto rfl ?_
                  refine wp_istore1 (pc' := 76) rfl (by first | rfl | assumption) rfl ?_
                  first | refine wp_iinc2 (w := nI 2) (pc' := 79) rfl rfl rfl (by with_reducible exact nI_add _ _) rfl ?_ | refine wp_iinc2 (w := nI 2) (pc' := 79) rfl rfl rfl rfl rfl ?_
                  refine wp_goto rfl ?_
                  exact WP.cg (ih (i + 1) (decide (tv (2 * i) < 100 ∧ tv (2 * i + 1) < 10)) (by omega) (fun q => trB_two (hv0 h35) (of_decide_eq_true q).1 (of_decide_eq_true q).2) (fun q => trB_no (hv0 h35) hlt2 (of_decide_eq_false q))) (lC1 (lI1 (by first | with_reducible rfl | exact fl_t (Nat.lt_succ_of_le h50) (Nat.lt_succ_of_le h67) | exact fl_1 (fun z => h50 (Nat.le_of_lt_succ z)) | exact fl_2 (fun z => h67 (Nat.le_of_lt_succ z)) | rfl) (lI1 (by first | with_reducible rfl | exact fl_t (Nat.lt_succ_of_le h50) (Nat.lt_succ_of_le h67) | exact fl_1 (fun z => h50 (Nat.le_of_lt_succ z)) | exact fl_2 (fun z => h67 (Nat.le_of_lt_succ z)) | rfl) rfl))) rfl (by rfl)
      exact WP.cg (lp26 (T + 2) (0) (decide (T ≤ 40 ∧ T % 2 = 0)) (by omega) (fun q => trB_z (of_decide_eq_true q)) (fun q => trB_zf (of_decide_eq_false q))) (lC1 (lI1 (by first | with_reducible rfl | exact (if_pos (decide_eq_true ⟨ge_nI h15 (by omega), eq_nI h6 (by omega) (by omega)⟩)).symm | exact (if_neg (fun q => h6 (by rw [(of_decide_eq_true q).2]))).symm | exact (if_neg (fun q => absurd (nI_lt_inv (by omega) (by omega) h15) (Nat.not_lt.mpr (of_decide_eq_true q).1))).symm | rfl) (lI1 (by first | with_reducible rfl | exact (if_pos (decide_eq_true ⟨ge_nI h15 (by omega), eq_nI h6 (by omega) (by omega)⟩)).symm | exact (if_neg (fun q => h6 (by rw [(of_decide_eq_true q).2]))).symm | exact (if_neg (fun q => absurd (nI_lt_inv (by omega) (by omega) h15) (Nat.not_lt.mpr (of_decide_eq_true q).1))).symm | rfl) rfl))) rfl (by rfl)
    · intro h15
      refine wp_iconst (v := nI 1) (pc' := 19) rfl rfl rfl ?_
      refine wp_goto rfl ?_
      refine wp_istore1 (pc' := 24) rfl (by first | rfl | assumption) rfl ?_
      refine wp_iconst (v := nI 0) (pc' := 25) rfl rfl rfl ?_
      refine wp_istore2 (pc' := 26) rfl (by first | rfl | assumption) rfl ?_
      have lp26 : ∀ r (i : Nat) (b : Bool), T + 2 ≤ 2 * i + r ∧ 2 * i ≤ T + 1 → (b = true → trB 100 10 tv T (2 * i) = true) → (b = false → trB 100 10 tv T T = false) → WP (d + 2) F_324 26 [.ref 318, .int (if b = true then nI 1 else nI 0), .int (nI (2 * i))] [] (K, I, L, R, n, s) Q := by
        intro r; induction r with
        | zero =>
          intro i b hi hv0 hv1
          exact absurd hi (by omega)
        | succ r ih =>
          intro i b hi hv0 hv1
          refine wp_iload2 (pc' := 27) rfl rfl ?_
          refine wp_aload0 (pc' := 28) rfl rfl ?_
          refine wp_getI (pc' := 31) rfl rfl (by first | exact TK.k1 hT rfl | exact TK.kk hT rfl | exact TK.r hT rfl | assumption) rfl ?_
          rw [he]
          refine wp_icmpge (pc' := 34) rfl rfl ?_ ?_
          · intro h31
            refine wp_iload1 (pc' := 83) rfl rfl ?_
            refine wp_iret rfl rfl (by first | rfl | exact nar_if) ?_
            first | exact Qv kk (isr_end hv0 hv1 (Or.inl (ge_nI h31 (by omega)))) rfl | exact Qv kk (isr_end hv0 hv1 (Or.inr (Bool.eq_false_iff.mpr h35))) rfl
          · intro h31
            refine wp_iload1 (pc' := 35) rfl rfl ?_
            first | refine wp_ifeqB (pc' := 38) rfl rfl ?_ ?_ | refine wp_ifeq (pc' := 38) rfl rfl ?_ ?_
            · intro h35
              refine wp_iload1 (pc' := 83) rfl rfl ?_
              refine wp_iret rfl rfl (by first | rfl | exact nar_if) ?_
              first | exact Qv kk (isr_end hv0 hv1 (Or.inl (ge_nI h31 (by omega)))) rfl | exact Qv kk (isr_end hv0 hv1 (Or.inr (Bool.eq_false_iff.mpr h35))) rfl
            · intro h35
              have hlt2 := nI_lt_inv (by omega) (by omega) h31
              have he2 := trB_40 (hv0 h35)
              have htb1 := (htp (2 * i) (by omega)).2
              have htb2 := (htp (2 * i + 1) (by omega)).2
              refine wp_aload0 (pc' := 39) rfl rfl ?_
              refine wp_getRF (pc' := 42) rfl rfl (by first | exact TK.k1 hT rfl | exact TK.kk hT rfl | exact TK.r hT rfl | assumption) (by first | exact TK.k1 hT rfl | exact TK.kk hT rfl | exact TK.r hT rfl | assumption) rfl ?_
              refine wp_iload2 (pc' := 43) rfl rfl ?_
              first | refine wp_bald _ (pc' := 44) rfl (by first | exact TK.k1 hT rfl | exact TK.kk hT rfl | exact TK.r hT rfl | assumption) (by with_reducible rfl) (by omega) (by first | decide | assumption | omega) rfl ?_ | refine wp_zald _ (pc' := 44) rfl (by first | exact TK.k1 hT rfl | exact TK.kk hT rfl | exact TK.r hT rfl | assumption) (by with_reducible rfl) (by omega) (by first | decide | assumption | omega) rfl ?_
              rw [(htp _ (by omega)).1]
              refine wp_iconst (v := nI 0) (pc' := 45) rfl rfl rfl ?_
              refine wp_bipush (v := nI 99) (pc' := 47) rfl rfl rfl ?_
              refine wp_callS3 (pc' := 50) rfl rfl rfl rfl rfl rfl ?_
              refine m_inS (by omega) (by decide) ?_
              refine Cont.v ?_
              first | refine wp_ifeqB (pc' := 53) rfl rfl ?_ ?_ | refine wp_ifeq (pc' := 53) rfl rfl ?_ ?_
              · intro h50
                refine wp_iconst (v := nI 0) (pc' := 75) rfl rfl rfl ?_
                refine wp_istore1 (pc' := 76) rfl (by first | rfl | assumption) rfl ?_
                first | refine wp_iinc2 (w := nI 2) (pc' := 79) rfl rfl rfl (by with_reducible exact nI_add _ _) rfl ?_ | refine wp_iinc2 (w := nI 2) (pc' := 79) rfl rfl rfl rfl rfl ?_
                refine wp_goto rfl ?_
                exact WP.cg (ih (i + 1) (decide (tv (2 * i) < 100 ∧ tv (2 * i + 1) < 10)) (by omega) (fun q => trB_two (hv0 h35) (of_decide_eq_true q).1 (of_decide_eq_true q).2) (fun q => trB_no (hv0 h35) hlt2 (of_decide_eq_false q))) (lC1 (lI1 (by first | with_reducible rfl | exact fl_t (Nat.lt_succ_of_le h50) (Nat.lt_succ_of_le h67) | exact fl_1 (fun z => h50 (Nat.le_of_lt_succ z)) | exact fl_2 (fun z => h67 (Nat.le_of_lt_succ z)) | rfl) (lI1 (by first | with_reducible rfl | exact fl_t (Nat.lt_succ_of_le h50) (Nat.lt_succ_of_le h67) | exact fl_1 (fun z => h50 (Nat.le_of_lt_succ z)) | exact fl_2 (fun z => h67 (Nat.le_of_lt_succ z)) | rfl) rfl))) rfl (by rfl)
              · intro h50
                refine wp_aload0 (pc' := 54) rfl rfl ?_
                refine wp_getRF (pc' := 57) rfl rfl (by first | exact TK.k1 hT rfl | exact TK.kk hT rfl | exact TK.r hT rfl | assumption) (by first | exact TK.k1 hT rfl | exact TK.kk hT rfl | exact TK.r hT rfl | assumption) rfl ?_
                refine wp_iload2 (pc' := 58) rfl rfl ?_
                refine wp_iconst (v := nI 1) (pc' := 59) rfl rfl rfl ?_
                first | refine wp_iaddN (pc' := 60) rfl (by with_reducible rfl) (by with_reducible rfl) rfl ?_ | refine wp_iadd (pc' := 60) rfl rfl ?_
                first | refine wp_bald _ (pc' := 61) rfl (by first | exact TK.k1 hT rfl | exact TK.kk hT rfl | exact TK.r hT rfl | assumption) (by with_reducible rfl) (by omega) (by first | decide | assumption | omega) rfl ?_ | refine wp_zald _ (pc' := 61) rfl (by first | exact TK.k1 hT rfl | exact TK.kk hT rfl | exact TK.r hT rfl | assumption) (by with_reducible rfl) (by omega) (by first | decide | assumption | omega) rfl ?_
                rw [(htp _ (by omega)).1]
                refine wp_iconst (v := nI 0) (pc' := 62) rfl rfl rfl ?_
                refine wp_bipush (v := nI 9) (pc' := 64) rfl rfl rfl ?_
                refine wp_callS3 (pc' := 67) rfl rfl rfl rfl rfl rfl ?_
                refine m_inS (by omega) (by decide) ?_
                refine Cont.v ?_
                first | refine wp_ifeqB (pc' := 70) rfl rfl ?_ ?_ | refine wp_ifeq (pc' := 70) rfl rfl ?_ ?_
                · intro h67
                  refine wp_iconst (v := nI 0) (pc' := 75) rfl rfl rfl ?_
                  refine wp_istore1 (pc' := 76) rfl (by first | rfl | assumption) rfl ?_
                  first | refine wp_iinc2 (w := nI 2) (pc' := 79) rfl rfl rfl (by with_reducible exact nI_add _ _) rfl ?_ | refine wp_iinc2 (w := nI 2) (pc' := 79) rfl rfl rfl rfl rfl ?_
                  refine wp_goto rfl ?_
                  exact WP.cg (ih (i + 1) (decide (tv (2 * i) < 100 ∧ tv (2 * i + 1) < 10)) (by omega) (fun q => trB_two (hv0 h35) (of_decide_eq_true q).1 (of_decide_eq_true q).2) (fun q => trB_no (hv0 h35) hlt2 (of_decide_eq_false q))) (lC1 (lI1 (by first | with_reducible rfl | exact fl_t (Nat.lt_succ_of_le h50) (Nat.lt_succ_of_le h67) | exact fl_1 (fun z => h50 (Nat.le_of_lt_succ z)) | exact fl_2 (fun z => h67 (Nat.le_of_lt_succ z)) | rfl) (lI1 (by first | with_reducible rfl | exact fl_t (Nat.lt_succ_of_le h50) (Nat.lt_succ_of_le h67) | exact fl_1 (fun z => h50 (Nat.le_of_lt_succ z)) | exact fl_2 (fun z => h67 (Nat.le_of_lt_succ z)) | rfl) rfl))) rfl (by rfl)
                · intro h67
                  refine wp_iconst (v := nI 1) (pc' := 71) rfl rfl rfl ?_
                  refine wp_goto rfl ?_
                  refine wp_istore1 (pc' := 76) rfl (by first | rfl | assumption) rfl ?_
                  first | refine wp_iinc2 (w := nI 2) (pc' := 79) rfl rfl rfl (by with_reducible exact nI_add _ _) rfl ?_ | refine wp_iinc2 (w := nI 2) (pc' := 79) rfl rfl rfl rfl rfl ?_
                  refine wp_goto rfl ?_
                  exact WP.cg (ih (i + 1) (decide (tv (2 * i) < 100 ∧ tv (2 * i + 1) < 10)) (by omega) (fun q => trB_two (hv0 h35) (of_decide_eq_true q).1 (of_decide_eq_true q).2) (fun q => trB_no (hv0 h35) hlt2 (of_decide_eq_false q))) (lC1 (lI1 (by first | with_reducible rfl | exact fl_t (Nat.lt_succ_of_le h50) (Nat.lt_succ_of_le h67) | exact fl_1 (fun z => h50 (Nat.le_of_lt_succ z)) | exact fl_2 (fun z => h67 (Nat.le_of_lt_succ z)) | rfl) (lI1 (by first | with_reducible rfl | exact fl_t (Nat.lt_succ_of_le h50) (Nat.lt_succ_of_le h67) | exact fl_1 (fun z => h50 (Nat.le_of_lt_succ z)) | exact fl_2 (fun z => h67 (Nat.le_of_lt_succ z)) | rfl) rfl))) rfl (by rfl)
      exact WP.cg (lp26 (T + 2) (0) (decide (T ≤ 40 ∧ T % 2 = 0)) (by omega) (fun q => trB_z (of_decide_eq_true q)) (fun q => trB_zf (of_decide_eq_false q))) (lC1 (lI1 (by first | with_reducible rfl | exact (if_pos (decide_eq_true ⟨ge_nI h15 (by omega), eq_nI h6 (by omega) (by omega)⟩)).symm | exact (if_neg (fun q => h6 (by rw [(of_decide_eq_true q).2]))).symm | exact (if_neg (fun q => absurd (nI_lt_inv (by omega) (by omega) h15) (Nat.not_lt.mpr (of_decide_eq_true q).1))).symm | rfl) (lI1 (by first | with_reducible rfl | exact (if_pos (decide_eq_true ⟨ge_nI h15 (by omega), eq_nI h6 (by omega) (by omega)⟩)).symm | exact (if_neg (fun q => h6 (by rw [(of_decide_eq_true q).2]))).symm | exact (if_neg (fun q => absurd (nI_lt_inv (by omega) (by omega) h15) (Nat.not_lt.mpr (of_decide_eq_true q).1))).symm | rfl) rfl))) rfl (by rfl)
abbrev isTk (q : Nat) : Prop := (¬ lxC q < nI 0 ∧ ¬ nI 4 < lxC q) ∧ (¬ lyC q < nI 0 ∧ ¬ nI 4 < lyC q)
def rtN (q i : Nat) : Int32 := forN (fun k x => x ||| jshl (nI 1) (nI 5 * (nI (q % 25 / 5) + dnC (q / 25 % 4) * nI k) + nI (q % 25 % 5) + rtC (q / 25 % 4) * nI k)) (nI 0) i
theorem rt_eq : ∀ q : Fin 400, (if isTk q.1 then rtN q.1 (q.1 / 100 + 2) else nI 0) = cellC q.1 := by decide +kernel
theorem rt_0 {q : Nat} {f : Bool} : nI 0 = if f = true then rtN q 0 else nI 0 := by cases f <;> rfl
theorem rt_fin {q k : Nat} {f : Bool} (hq : q < 400) (hf : f = decide (isTk q)) (h : k = q / 100 + 2 ∨ f = false) : (if f = true then rtN q k else nI 0) = cellC q := by
  rw [← rt_eq ⟨q, hq⟩]
  show _ = if isTk q then rtN q (q / 100 + 2) else nI 0
  by_cases e : isTk q
  · rw [decide_eq_true e] at hf
    subst hf
    rw [if_pos rfl, if_pos e, h.resolve_right (by decide)]
  · rw [decide_eq_false e] at hf
    subst hf
    rw [if_neg (by decide), if_neg e]

theorem m_laysTrunks {d : Nat} {K : Nat → Nat × Nat} {I : Nat → Nat → Int32} {L : Nat → Nat → Int64} {R : Nat → Nat → Option Nat} {n s : Nat} {Q : Lo → Lm → Prop}  (hT : TK K R n) (kk : Q (.inl none) (K, upr I 330 (cpy 400 cellC (I 330)), L, R, n, s)) : Ok (d + 2) 318 [.ref 318] (K, I, L, R, n, s) Q := by
  obtain ⟨-, -, hn⟩ := id hT
  refine Ok.enter (F := F_318) (ls := [.ref 318, lDead, lDead, lDead, lDead, lDead, lDead, lDead, lDead, lDead, lDead]) rfl rfl ?_
  refine wp_iconst (v := nI 0) (pc' := 1) rfl rfl rfl ?_
  refine wp_istore1 (pc' := 2) rfl (by first | rfl | assumption) rfl ?_
  have lp2 : ∀ r (i : Nat) (v2 : Value) (v3 : Value) (v4 : Value) (v5 : Value) (v6 : Value) (v7 : Value) (v8 : Value) (v9 : Value) (v10 : Value), i + r = 400 → isL v2 = false → isL v3 = false → isL v4 = false → isL v5 = false → isL v6 = false → isL v7 = false → isL v8 = false → isL v9 = false → isL v10 = false → WP (d + 1) F_318 2 [.ref 318, .int (nI i), v2, v3, v4, v5, v6, v7, v8, v9, v10] [] (K, upr I 330 (cpy i cellC (I 330)), L, R, n, s) Q := by
    intro r; induction r with
    | zero =>
      intro i v2 v3 v4 v5 v6 v7 v8 v9 v10 hi hv0 hv1 hv2 hv3 hv4 hv5 hv6 hv7 hv8
      have hi2 : i = 400 := by omega
      subst hi2
      refine wp_iload1 (pc' := 3) rfl rfl ?_
      refine wp_sipush (v := nI 400) (pc' := 6) rfl rfl rfl ?_
      refine wp_icmpgeT rfl (nI_nlt (by omega) (by omega)) ?_
      refine wp_vret rfl rfl ?_
      exact kk
    | succ r ih =>
      intro i v2 v3 v4 v5 v6 v7 v8 v9 v10 hi hv0 hv1 hv2 hv3 hv4 hv5 hv6 hv7 hv8
      have hlt : i < 400 := by omega
      refine wp_iload1 (pc' := 3) rfl rfl ?_
      refine wp_sipush (v := nI 400) (pc' := 6) rfl rfl rfl ?_
      refine wp_icmpgeF (pc' := 9) rfl (nI_lt (by omega) (by omega)) rfl ?_
      refine wp_iload1 (pc' := 10) rfl rfl ?_
      refine wp_bipush (v := nI 100) (pc' := 12) rfl rfl rfl ?_
      first | refine wp_idivN (pc' := 13) rfl (by with_reducible rfl) (by with_reducible rfl) (by omega) (by omega) (by omega) rfl ?_ | refine wp_idiv (pc' := 13) rfl (by decide) rfl ?_
      refine wp_iconst (v := nI 2) (pc' := 14) rfl rfl rfl ?_
      first | refine wp_iaddN (pc' := 15) rfl (by with_reducible rfl) (by with_reducible rfl) rfl ?_ | refine wp_iadd (pc' := 15) rfl rfl ?_
      refine wp_istore2 (pc' := 16) rfl (by first | rfl | assumption) rfl ?_
      refine wp_iload1 (pc' := 17) rfl rfl ?_
      refine wp_bipush (v := nI 25) (pc' := 19) rfl rfl rfl ?_
      first | refine wp_idivN (pc' := 20) rfl (by with_reducible rfl) (by with_reducible rfl) (by omega) (by omega) (by omega) rfl ?_ | refine wp_idiv (pc' := 20) rfl (by decide) rfl ?_
      refine wp_iconst (v := nI 4) (pc' := 21) rfl rfl rfl ?_
      first | refine wp_iremN (pc' := 22) rfl (by with_reducible rfl) (by with_reducible rfl) (by omega) (by omega) (by omega) rfl ?_ | refine wp_irem (pc' := 22) rfl (by decide) rfl ?_
      refine wp_istore3 (pc' := 23) rfl (by first | rfl | assumption) rfl ?_
      refine wp_iload1 (pc' := 24) rfl rfl ?_
      refine wp_bipush (v := nI 25) (pc' := 26) rfl rfl rfl ?_
      first | refine wp_iremN (pc' := 27) rfl (by with_reducible rfl) (by with_reducible rfl) (by omega) (by omega) (by omega) rfl ?_ | refine wp_irem (pc' := 27) rfl (by decide) rfl ?_
      refine wp_iconst (v := nI 5) (pc' := 28) rfl rfl rfl ?_
      first | refine wp_iremN (pc' := 29) rfl (by with_reducible rfl) (by with_reducible rfl) (by omega) (by omega) (by omega) rfl ?_ | refine wp_irem (pc' := 29) rfl (by decide) rfl ?_
      refine wp_istore4 (pc' := 31) rfl (by first | rfl | assumption) rfl ?_
      refine wp_iload1 (pc' := 32) rfl rfl ?_
      refine wp_bipush (v := nI 25) (pc' := 34) rfl rfl rfl ?_
      first | refine wp_iremN (pc' := 35) rfl (by with_reducible rfl) (by with_reducible rfl) (by omega) (by omega) (by omega) rfl ?_ | refine wp_irem (pc' := 35) rfl (by decide) rfl ?_
      refine wp_iconst (v := nI 5) (pc' := 36) rfl rfl rfl ?_
      first | refine wp_idivN (pc' := 37) rfl (by with_reducible rfl) (by with_reducible rfl) (by omega) (by omega) (by omega) rfl ?_ | refine wp_idiv (pc' := 37) rfl (by decide) rfl ?_
      refine wp_istore5 (pc' := 39) rfl (by first | rfl | assumption) rfl ?_
      refine wp_iload3 (pc' := 40) rfl rfl ?_
      refine wp_iconst (v := nI 1) (pc' := 41) rfl rfl rfl ?_
      refine wp_icmpne (pc' := 44) rfl rfl ?_ ?_
      · intro h41
        refine wp_iload3 (pc' := 49) rfl rfl ?_
        refine wp_iconst (v := nI 3) (pc' := 50) rfl rfl rfl ?_
        refine wp_icmpne (pc' := 53) rfl rfl ?_ ?_
        · intro h50
          refine wp_iconst (v := nI 1) (pc' := 58) rfl rfl rfl ?_
          refine wp_istore6 (pc' := 60) rfl (by first | rfl | assumption) rfl ?_
          refine wp_iload3 (pc' := 61) rfl rfl ?_
          first | refine wp_ifneB (pc' := 64) rfl rfl ?_ ?_ | refine wp_ifne (pc' := 64) rfl rfl ?_ ?_
          · intro h61
            refine wp_iconst (v := nI 1) (pc' := 69) rfl rfl rfl ?_
            refine wp_istore7 (pc' := 71) rfl (by first | rfl | assumption) rfl ?_
            refine wp_iconst (v := nI 0) (pc' := 72) rfl rfl rfl ?_
            refine wp_istore8 (pc' := 74) rfl (by first | rfl | assumption) rfl ?_
            refine wp_iload4 (pc' := 76) rfl rfl ?_
            refine wp_iload6 (pc' := 78) rfl rfl ?_
            refine wp_iload2 (pc' := 79) rfl rfl ?_
            refine wp_iconst (v := nI 1) (pc' := 80) rfl rfl rfl ?_
            first | refine wp_isubN (pc' := 81) rfl (by with_reducible rfl) (by with_reducible rfl) (by omega) rfl ?_ | refine wp_isub (pc' := 81) rfl rfl ?_
            first | refine wp_imulN (pc' := 82) rfl (by with_reducible rfl) (by with_reducible rfl) rfl ?_ | refine wp_imul (pc' := 82) rfl rfl ?_
            first | refine wp_iaddN (pc' := 83) rfl (by with_reducible rfl) (by with_reducible rfl) rfl ?_ | refine wp_iadd (pc' := 83) rfl rfl ?_
            refine wp_iconst (v := nI 0) (pc' := 84) rfl rfl rfl ?_
            refine wp_iconst (v := nI 4) (pc' := 85) rfl rfl rfl ?_
            refine wp_callS3 (pc' := 88) rfl rfl rfl rfl rfl rfl ?_
            refine m_in ?_
            first | rw [show nI (i % 25 % 5 + 1 * (i / 100 + 2 - 1)) = lxC i from by unfold lxC rtC; rw [if_neg h41, if_neg h50, nI_mul, nI_add]] | rw [show nI (i % 25 % 5 + 0 * (i / 100 + 2 - 1)) = lxC i from by unfold lxC rtC; rw [if_pos h41, nI_mul, nI_add]] | rw [show nI (i % 25 % 5) + (-1) * nI (i / 100 + 2 - 1) = lxC i from by unfold lxC rtC; rw [if_neg h41, if_pos h50]]
            refine Cont.v ?_
            first | refine wp_ifeqB (pc' := 91) rfl rfl ?_ ?_ | refine wp_ifeq (pc' := 91) rfl rfl ?_ ?_
            · intro h88
              refine wp_iconst (v := nI 0) (pc' := 113) rfl rfl rfl ?_
              refine wp_istore9 (pc' := 115) rfl (by first | rfl | assumption) rfl ?_
              refine wp_iconst (v := nI 0) (pc' := 116) rfl rfl rfl ?_
              refine wp_istore10 (pc' := 118) rfl (by first | rfl | assumption) rfl ?_
              have lp118 : ∀ rb (k : Nat) (dx dy : Int32) (f : Bool), k + rb = (i / 100 + 2) → dx = rtC (i / 25 % 4) → dy = dnC (i / 25 % 4) → f = decide (isTk i) → WP (d + 1) F_318 118 [.ref 318, .int (nI i), .int (nI (i / 100 + 2)), .int (nI (i / 25 % 4)), .int (nI (i % 25 % 5)), .int (nI (i % 25 / 5)), .int dx, .int dy, .int (if f = true then rtN i k else nI 0), .int (if f = true then nI 1 else nI 0), .int (nI k)] [] (K, upr I 330 (cpy i cellC (I 330)), L, R, n, s) Q := by
                intro rb; induction rb with
                | zero =>
                  intro k dx dy f hib hvb0 hvb1 hvb2
                  have hi2b : k = (i / 100 + 2) := by omega
                  subst hi2b
                  refine wp_iload10 (pc' := 120) rfl rfl ?_
                  refine wp_iload2 (pc' := 121) rfl rfl ?_
                  refine wp_icmpgeT rfl (nI_nlt (by omega) (by omega)) ?_
                  refine wp_aload0 (pc' := 162) rfl rfl ?_
                  refine wp_getRF (pc' := 165) rfl rfl (by first | exact TK.k1 hT rfl | exact TK.kk hT rfl | exact TK.r hT rfl | assumption) (by first | exact TK.k1 hT rfl | exact TK.kk hT rfl | exact TK.r hT rfl | assumption) rfl ?_
                  refine wp_iload1 (pc' := 166) rfl rfl ?_
                  refine wp_iload8 (pc' := 168) rfl rfl ?_
                  refine wp_iast _ (pc' := 169) rfl (by first | exact TK.k1 hT rfl | exact TK.kk hT rfl | exact TK.r hT rfl | assumption) (by omega) (by with_reducible rfl) (by omega) (by first | decide | assumption | omega) rfl ?_
                  first | refine wp_iinc1 (w := nI 1) (pc' := 172) rfl rfl rfl (by with_reducible exact nI_add _ _) rfl ?_ | refine wp_iinc1 (w := nI 1) (pc' := 172) rfl rfl rfl rfl rfl ?_
                  refine wp_goto rfl ?_
                  exact WP.cg (ih (i + 1) _ _ _ _ _ _ _ _ _ (by omega) (by first | rfl | assumption) (by first | rfl | assumption) (by first | rfl | assumption) (by first | rfl | assumption) (by first | rfl | assumption) (by first | rfl | assumption) (by first | rfl | assumption) (by first | rfl | assumption) (by first | rfl | assumption)) (lC1 (lI1 (by rfl) (lC1 (lC1 (lC1 (lC1 (lC1 (lC1 (lC1 (lC1 (lC1 rfl))))))))))) rfl (by rw [up2_upr]; first | (rw [rt_fin (by omega) hvb2 (Or.inl rfl)]; exact congrArg (fun r => (K, upr I 330 r, L, R, n, s)) (cpy_up (f := cellC))) | (rw [rt_fin (by omega) hvb2 (Or.inr (Bool.eq_false_iff.mpr h126))]; exact congrArg (fun r => (K, upr I 330 r, L, R, n, s)) (cpy_up (f := cellC))))
                | succ rb ihb =>
                  intro k dx dy f hib hvb0 hvb1 hvb2
                  have hltb : k < (i / 100 + 2) := by omega
                  refine wp_iload10 (pc' := 120) rfl rfl ?_
                  refine wp_iload2 (pc' := 121) rfl rfl ?_
                  refine wp_icmpgeF (pc' := 124) rfl (nI_lt (by omega) (by omega)) rfl ?_
                  refine wp_iload9 (pc' := 126) rfl rfl ?_
                  first | refine wp_ifeqB (pc' := 129) rfl rfl ?_ ?_ | refine wp_ifeq (pc' := 129) rfl rfl ?_ ?_
                  · intro h126
                    refine wp_aload0 (pc' := 162) rfl rfl ?_
                    refine wp_getRF (pc' := 165) rfl rfl (by first | exact TK.k1 hT rfl | exact TK.kk hT rfl | exact TK.r hT rfl | assumption) (by first | exact TK.k1 hT rfl | exact TK.kk hT rfl | exact TK.r hT rfl | assumption) rfl ?_
                    refine wp_iload1 (pc' := 166) rfl rfl ?_
                    refine wp_iload8 (pc' := 168) rfl rfl ?_
                    refine wp_iast _ (pc' := 169) rfl (by first | exact TK.k1 hT rfl | exact TK.kk hT rfl | exact TK.r hT rfl | assumption) (by omega) (by with_reducible rfl) (by omega) (by first | decide | assumption | omega) rfl ?_
                    first | refine wp_iinc1 (w := nI 1) (pc' := 172) rfl rfl rfl (by with_reducible exact nI_add _ _) rfl ?_ | refine wp_iinc1 (w := nI 1) (pc' := 172) rfl rfl rfl rfl rfl ?_
                    refine wp_goto rfl ?_
                    exact WP.cg (ih (i + 1) _ _ _ _ _ _ _ _ _ (by omega) (by first | rfl | assumption) (by first | rfl | assumption) (by first | rfl | assumption) (by first | rfl | assumption) (by first | rfl | assumption) (by first | rfl | assumption) (by first | rfl | assumption) (by first | rfl | assumption) (by first | rfl | assumption)) (lC1 (lI1 (by rfl) (lC1 (lC1 (lC1 (lC1 (lC1 (lC1 (lC1 (lC1 (lC1 rfl))))))))))) rfl (by rw [up2_upr]; first | (rw [rt_fin (by omega) hvb2 (Or.inl rfl)]; exact congrArg (fun r => (K, upr I 330 r, L, R, n, s)) (cpy_up (f := cellC))) | (rw [rt_fin (by omega) hvb2 (Or.inr (Bool.eq_false_iff.mpr h126))]; exact congrArg (fun r => (K, upr I 330 r, L, R, n, s)) (cpy_up (f := cellC))))
                  · intro h126
                    refine wp_iload8 (pc' := 131) rfl rfl ?_
                    refine wp_iconst (v := nI 1) (pc' := 132) rfl rfl rfl ?_
                    refine wp_iconst (v := nI 5) (pc' := 133) rfl rfl rfl ?_
                    refine wp_iload5 (pc' := 135) rfl rfl ?_
                    refine wp_iload7 (pc' := 137) rfl rfl ?_
                    refine wp_iload10 (pc' := 139) rfl rfl ?_
                    first | refine wp_imulN (pc' := 140) rfl (by with_reducible rfl) (by with_reducible rfl) rfl ?_ | refine wp_imul (pc' := 140) rfl rfl ?_
                    first | refine wp_iaddN (pc' := 141) rfl (by with_reducible rfl) (by with_reducible rfl) rfl ?_ | refine wp_iadd (pc' := 141) rfl rfl ?_
                    first | refine wp_imulN (pc' := 142) rfl (by with_reducible rfl) (by with_reducible rfl) rfl ?_ | refine wp_imul (pc' := 142) rfl rfl ?_
                    refine wp_iload4 (pc' := 144) rfl rfl ?_
                    first | refine wp_iaddN (pc' := 145) rfl (by with_reducible rfl) (by with_reducible rfl) rfl ?_ | refine wp_iadd (pc' := 145) rfl rfl ?_
                    refine wp_iload6 (pc' := 147) rfl rfl ?_
                    refine wp_iload10 (pc' := 149) rfl rfl ?_
                    first | refine wp_imulN (pc' := 150) rfl (by with_reducible rfl) (by with_reducible rfl) rfl ?_ | refine wp_imul (pc' := 150) rfl rfl ?_
                    first | refine wp_iaddN (pc' := 151) rfl (by with_reducible rfl) (by with_reducible rfl) rfl ?_ | refine wp_iadd (pc' := 151) rfl rfl ?_
                    refine wp_ishl (pc' := 152) rfl rfl ?_
                    refine wp_ior (pc' := 153) rfl rfl ?_
                    refine wp_istore8 (pc' := 155) rfl (by first | rfl | assumption) rfl ?_
                    first | refine wp_iinc10 (w := nI 1) (pc' := 158) rfl rfl rfl (by with_reducible exact nI_add _ _) rfl ?_ | refine wp_iinc10 (w := nI 1) (pc' := 158) rfl rfl rfl rfl rfl ?_
                    refine wp_goto rfl ?_
                    exact WP.cg (ihb (k + 1) dx dy f (by omega) hvb0 hvb1 hvb2) (lC1 (lI1 (by first | with_reducible rfl | (rw [if_pos h126, if_pos h126, hvb0, hvb1]; rfl)) (lI1 (by first | with_reducible rfl | (rw [if_pos h126, if_pos h126, hvb0, hvb1]; rfl)) (lI1 (by first | with_reducible rfl | (rw [if_pos h126, if_pos h126, hvb0, hvb1]; rfl)) (lI1 (by first | with_reducible rfl | (rw [if_pos h126, if_pos h126, hvb0, hvb1]; rfl)) (lI1 (by first | with_reducible rfl | (rw [if_pos h126, if_pos h126, hvb0, hvb1]; rfl)) (lI1 (by first | with_reducible rfl | (rw [if_pos h126, if_pos h126, hvb0, hvb1]; rfl)) (lI1 (by first | with_reducible rfl | (rw [if_pos h126, if_pos h126, hvb0, hvb1]; rfl)) (lI1 (by first | with_reducible rfl | (rw [if_pos h126, if_pos h126, hvb0, hvb1]; rfl)) (lI1 (by first | with_reducible rfl | (rw [if_pos h126, if_pos h126, hvb0, hvb1]; rfl)) (lI1 (by first | with_reducible rfl | (rw [if_pos h126, if_pos h126, hvb0, hvb1]; rfl)) rfl))))))))))) rfl (by rfl)
              exact WP.cg (lp118 ((i / 100 + 2) - (0)) (0) _ _ (decide (isTk i)) (by omega) (by unfold rtC; first | exact (if_pos h41).symm | (rw [if_neg h41, if_pos h50]; done) | (rw [if_neg h41, if_neg h50]; done)) (by unfold dnC; first | exact (if_pos h61).symm | exact (if_neg h61).symm) rfl) (lC1 (lI1 (by first | with_reducible rfl | exact fl_t h88 h105 | exact fl_1 h88 | exact fl_2 h105 | exact rt_0) (lI1 (by first | with_reducible rfl | exact fl_t h88 h105 | exact fl_1 h88 | exact fl_2 h105 | exact rt_0) (lI1 (by first | with_reducible rfl | exact fl_t h88 h105 | exact fl_1 h88 | exact fl_2 h105 | exact rt_0) (lI1 (by first | with_reducible rfl | exact fl_t h88 h105 | exact fl_1 h88 | exact fl_2 h105 | exact rt_0) (lI1 (by first | with_reducible rfl | exact fl_t h88 h105 | exact fl_1 h88 | exact fl_2 h105 | exact rt_0) (lI1 (by first | with_reducible rfl | exact fl_t h88 h105 | exact fl_1 h88 | exact fl_2 h105 | exact rt_0) (lI1 (by first | with_reducible rfl | exact fl_t h88 h105 | exact fl_1 h88 | exact fl_2 h105 | exact rt_0) (lI1 (by first | with_reducible rfl | exact fl_t h88 h105 | exact fl_1 h88 | exact fl_2 h105 | exact rt_0) (lI1 (by first | with_reducible rfl | exact fl_t h88 h105 | exact fl_1 h88 | exact fl_2 h105 | exact rt_0) (lI1 (by first | with_reducible rfl | exact fl_t h88 h105 | exact fl_1 h88 | exact fl_2 h105 | exact rt_0) rfl))))))))))) rfl (by rfl)
            · intro h88
              refine wp_iload5 (pc' := 93) rfl rfl ?_
              refine wp_iload7 (pc' := 95) rfl rfl ?_
              refine wp_iload2 (pc' := 96) rfl rfl ?_
              refine wp_iconst (v := nI 1) (pc' := 97) rfl rfl rfl ?_
              first | refine wp_isubN (pc' := 98) rfl (by with_reducible rfl) (by with_reducible rfl) (by omega) rfl ?_ | refine wp_isub (pc' := 98) rfl rfl ?_
              first | refine wp_imulN (pc' := 99) rfl (by with_reducible rfl) (by with_reducible rfl) rfl ?_ | refine wp_imul (pc' := 99) rfl rfl ?_
              first | refine wp_iaddN (pc' := 100) rfl (by with_reducible rfl) (by with_reducible rfl) rfl ?_ | refine wp_iadd (pc' := 100) rfl rfl ?_
              refine wp_iconst (v := nI 0) (pc' := 101) rfl rfl rfl ?_
              refine wp_iconst (v := nI 4) (pc' := 102) rfl rfl rfl ?_
              refine wp_callS3 (pc' := 105) rfl rfl rfl rfl rfl rfl ?_
              refine m_in ?_
              first | rw [show nI (i % 25 / 5 + 1 * (i / 100 + 2 - 1)) = lyC i from by unfold lyC dnC; rw [if_neg h61, nI_mul, nI_add]] | rw [show nI (i % 25 / 5 + 0 * (i / 100 + 2 - 1)) = lyC i from by unfold lyC dnC; rw [if_pos h61, nI_mul, nI_add]]
              refine Cont.v ?_
              first | refine wp_ifeqB (pc' := 108) rfl rfl ?_ ?_ | refine wp_ifeq (pc' := 108) rfl rfl ?_ ?_
              · intro h105
                refine wp_iconst (v := nI 0) (pc' := 113) rfl rfl rfl ?_
                refine wp_istore9 (pc' := 115) rfl (by first | rfl | assumption) rfl ?_
                refine wp_iconst (v := nI 0) (pc' := 116) rfl rfl rfl ?_
                refine wp_istore10 (pc' := 118) rfl (by first | rfl | assumption) rfl ?_
                have lp118 : ∀ rb (k : Nat) (dx dy : Int32) (f : Bool), k + rb = (i / 100 + 2) → dx = rtC (i / 25 % 4) → dy = dnC (i / 25 % 4) → f = decide (isTk i) → WP (d + 1) F_318 118 [.ref 318, .int (nI i), .int (nI (i / 100 + 2)), .int (nI (i / 25 % 4)), .int (nI (i % 25 % 5)), .int (nI (i % 25 / 5)), .int dx, .int dy, .int (if f = true then rtN i k else nI 0), .int (if f = true then nI 1 else nI 0), .int (nI k)] [] (K, upr I 330 (cpy i cellC (I 330)), L, R, n, s) Q := by
                  intro rb; induction rb with
                  | zero =>
                    intro k dx dy f hib hvb0 hvb1 hvb2
                    have hi2b : k = (i / 100 + 2) := by omega
                    subst hi2b
                    refine wp_iload10 (pc' := 120) rfl rfl ?_
                    refine wp_iload2 (pc' := 121) rfl rfl ?_
                    refine wp_icmpgeT rfl (nI_nlt (by omega) (by omega)) ?_
                    refine wp_aload0 (pc' := 162) rfl rfl ?_
                    refine wp_getRF (pc' := 165) rfl rfl (by first | exact TK.k1 hT rfl | exact TK.kk hT rfl | exact TK.r hT rfl | assumption) (by first | exact TK.k1 hT rfl | exact TK.kk hT rfl | exact TK.r hT rfl | assumption) rfl ?_
                    refine wp_iload1 (pc' := 166) rfl rfl ?_
                    refine wp_iload8 (pc' := 168) rfl rfl ?_
                    refine wp_iast _ (pc' := 169) rfl (by first | exact TK.k1 hT rfl | exact TK.kk hT rfl | exact TK.r hT rfl | assumption) (by omega) (by with_reducible rfl) (by omega) (by first | decide | assumption | omega) rfl ?_
                    first | refine wp_iinc1 (w := nI 1) (pc' := 172) rfl rfl rfl (by with_reducible exact nI_add _ _) rfl ?_ | refine wp_iinc1 (w := nI 1) (pc' := 172) rfl rfl rfl rfl rfl ?_
                    refine wp_goto rfl ?_
                    exact WP.cg (ih (i + 1) _ _ _ _ _ _ _ _ _ (by omega) (by first | rfl | assumption) (by first | rfl | assumption) (by first | rfl | assumption) (by first | rfl | assumption) (by first | rfl | assumption) (by first | rfl | assumption) (by first | rfl | assumption) (by first | rfl | assumption) (by first | rfl | assumption)) (lC1 (lI1 (by rfl) (lC1 (lC1 (lC1 (lC1 (lC1 (lC1 (lC1 (lC1 (lC1 rfl))))))))))) rfl (by rw [up2_upr]; first | (rw [rt_fin (by omega) hvb2 (Or.inl rfl)]; exact congrArg (fun r => (K, upr I 330 r, L, R, n, s)) (cpy_up (f := cellC))) | (rw [rt_fin (by omega) hvb2 (Or.inr (Bool.eq_false_iff.mpr h126))]; exact congrArg (fun r => (K, upr I 330 r, L, R, n, s)) (cpy_up (f := cellC))))
                  | succ rb ihb =>
                    intro k dx dy f hib hvb0 hvb1 hvb2
                    have hltb : k < (i / 100 + 2) := by omega
                    refine wp_iload10 (pc' := 120) rfl rfl ?_
                    refine wp_iload2 (pc' := 121) rfl rfl ?_
                    refine wp_icmpgeF (pc' := 124) rfl (nI_lt (by omega) (by omega)) rfl ?_
                    refine wp_iload9 (pc' := 126) rfl rfl ?_
                    first | refine wp_ifeqB (pc' := 129) rfl rfl ?_ ?_ | refine wp_ifeq (pc' := 129) rfl rfl ?_ ?_
                    · intro h126
                      refine wp_aload0 (pc' := 162) rfl rfl ?_
                      refine wp_getRF (pc' := 165) rfl rfl (by first | exact TK.k1 hT rfl | exact TK.kk hT rfl | exact TK.r hT rfl | assumption) (by first | exact TK.k1 hT rfl | exact TK.kk hT rfl | exact TK.r hT rfl | assumption) rfl ?_
                      refine wp_iload1 (pc' := 166) rfl rfl ?_
                      refine wp_iload8 (pc' := 168) rfl rfl ?_
                      refine wp_iast _ (pc' := 169) rfl (by first | exact TK.k1 hT rfl | exact TK.kk hT rfl | exact TK.r hT rfl | assumption) (by omega) (by with_reducible rfl) (by omega) (by first | decide | assumption | omega) rfl ?_
                      first | refine wp_iinc1 (w := nI 1) (pc' := 172) rfl rfl rfl (by with_reducible exact nI_add _ _) rfl ?_ | refine wp_iinc1 (w := nI 1) (pc' := 172) rfl rfl rfl rfl rfl ?_
                      refine wp_goto rfl ?_
                      exact WP.cg (ih (i + 1) _ _ _ _ _ _ _ _ _ (by omega) (by first | rfl | assumption) (by first | rfl | assumption) (by first | rfl | assumption) (by first | rfl | assumption) (by first | rfl | assumption) (by first | rfl | assumption) (by first | rfl | assumption) (by first | rfl | assumption) (by first | rfl | assumption)) (lC1 (lI1 (by rfl) (lC1 (lC1 (lC1 (lC1 (lC1 (lC1 (lC1 (lC1 (lC1 rfl))))))))))) rfl (by rw [up2_upr]; first | (rw [rt_fin (by omega) hvb2 (Or.inl rfl)]; exact congrArg (fun r => (K, upr I 330 r, L, R, n, s)) (cpy_up (f := cellC))) | (rw [rt_fin (by omega) hvb2 (Or.inr (Bool.eq_false_iff.mpr h126))]; exact congrArg (fun r => (K, upr I 330 r, L, R, n, s)) (cpy_up (f := cellC))))
                    · intro h126
                      refine wp_iload8 (pc' := 131) rfl rfl ?_
                      refine wp_iconst (v := nI 1) (pc' := 132) rfl rfl rfl ?_
                      refine wp_iconst (v := nI 5) (pc' := 133) rfl rfl rfl ?_
                      refine wp_iload5 (pc' := 135) rfl rfl ?_
                      refine wp_iload7 (pc' := 137) rfl rfl ?_
                      refine wp_iload10 (pc' := 139) rfl rfl ?_
                      first | refine wp_imulN (pc' := 140) rfl (by with_reducible rfl) (by with_reducible rfl) rfl ?_ | refine wp_imul (pc' := 140) rfl rfl ?_
                      first | refine wp_iaddN (pc' := 141) rfl (by with_reducible rfl) (by with_reducible rfl) rfl ?_ | refine wp_iadd (pc' := 141) rfl rfl ?_
                      first | refine wp_imulN (pc' := 142) rfl (by with_reducible rfl) (by with_reducible rfl) rfl ?_ | refine wp_imul (pc' := 142) rfl rfl ?_
                      refine wp_iload4 (pc' := 144) rfl rfl ?_
                      first | refine wp_iaddN (pc' := 145) rfl (by with_reducible rfl) (by with_reducible rfl) rfl ?_ | refine wp_iadd (pc' := 145) rfl rfl ?_
                      refine wp_iload6 (pc' := 147) rfl rfl ?_
                      refine wp_iload10 (pc' := 149) rfl rfl ?_
                      first | refine wp_imulN (pc' := 150) rfl (by with_reducible rfl) (by with_reducible rfl) rfl ?_ | refine wp_imul (pc' := 150) rfl rfl ?_
                      first | refine wp_iaddN (pc' := 151) rfl (by with_reducible rfl) (by with_reducible rfl) rfl ?_ | refine wp_iadd (pc' := 151) rfl rfl ?_
                      refine wp_ishl (pc' := 152) rfl rfl ?_
                      refine wp_ior (pc' := 153) rfl rfl ?_
                      refine wp_istore8 (pc' := 155) rfl (by first | rfl | assumption) rfl ?_
                      first | refine wp_iinc10 (w := nI 1) (pc' := 158) rfl rfl rfl (by with_reducible exact nI_add _ _) rfl ?_ | refine wp_iinc10 (w := nI 1) (pc' := 158) rfl rfl rfl rfl rfl ?_
                      refine wp_goto rfl ?_
                      exact WP.cg (ihb (k + 1) dx dy f (by omega) hvb0 hvb1 hvb2) (lC1 (lI1 (by first | with_reducible rfl | (rw [if_pos h126, if_pos h126, hvb0, hvb1]; rfl)) (lI1 (by first | with_reducible rfl | (rw [if_pos h126, if_pos h126, hvb0, hvb1]; rfl)) (lI1 (by first | with_reducible rfl | (rw [if_pos h126, if_pos h126, hvb0, hvb1]; rfl)) (lI1 (by first | with_reducible rfl | (rw [if_pos h126, if_pos h126, hvb0, hvb1]; rfl)) (lI1 (by first | with_reducible rfl | (rw [if_pos h126, if_pos h126, hvb0, hvb1]; rfl)) (lI1 (by first | with_reducible rfl | (rw [if_pos h126, if_pos h126, hvb0, hvb1]; rfl)) (lI1 (by first | with_reducible rfl | (rw [if_pos h126, if_pos h126, hvb0, hvb1]; rfl)) (lI1 (by first | with_reducible rfl | (rw [if_pos h126, if_pos h126, hvb0, hvb1]; rfl)) (lI1 (by first | with_reducible rfl | (rw [if_pos h126, if_pos h126, hvb0, hvb1]; rfl)) (lI1 (by first | with_reducible rfl | (rw [if_pos h126, if_pos h126, hvb0, hvb1]; rfl)) rfl))))))))))) rfl (by rfl)
                exact WP.cg (lp118 ((i / 100 + 2) - (0)) (0) _ _ (decide (isTk i)) (by omega) (by unfold rtC; first | exact (if_pos h41).symm | (rw [if_neg h41, if_pos h50]; done) | (rw [if_neg h41, if_neg h50]; done)) (by unfold dnC; first | exact (if_pos h61).symm | exact (if_neg h61).symm) rfl) (lC1 (lI1 (by first | with_reducible rfl | exact fl_t h88 h105 | exact fl_1 h88 | exact fl_2 h105 | exact rt_0) (lI1 (by first | with_reducible rfl | exact fl_t h88 h105 | exact fl_1 h88 | exact fl_2 h105 | exact rt_0) (lI1 (by first | with_reducible rfl | exact fl_t h88 h105 | exact fl_1 h88 | exact fl_2 h105 | exact rt_0) (lI1 (by first | with_reducible rfl | exact fl_t h88 h105 | exact fl_1 h88 | exact fl_2 h105 | exact rt_0) (lI1 (by first | with_reducible rfl | exact fl_t h88 h105 | exact fl_1 h88 | exact fl_2 h105 | exact rt_0) (lI1 (by first | with_reducible rfl | exact fl_t h88 h105 | exact fl_1 h88 | exact fl_2 h105 | exact rt_0) (lI1 (by first | with_reducible rfl | exact fl_t h88 h105 | exact fl_1 h88 | exact fl_2 h105 | exact rt_0) (lI1 (by first | with_reducible rfl | exact fl_t h88 h105 | exact fl_1 h88 | exact fl_2 h105 | exact rt_0) (lI1 (by first | with_reducible rfl | exact fl_t h88 h105 | exact fl_1 h88 | exact fl_2 h105 | exact rt_0) (lI1 (by first | with_reducible rfl | exact fl_t h88 h105 | exact fl_1 h88 | exact fl_2 h105 | exact rt_0) rfl))))))))))) rfl (by rfl)
              · intro h105
                refine wp_iconst (v := nI 1) (pc' := 109) rfl rfl rfl ?_
                refine wp_goto rfl ?_
                refine wp_istore9 (pc' := 115) rfl (by first | rfl | assumption) rfl ?_
                refine wp_iconst (v := nI 0) (pc' := 116) rfl rfl rfl ?_
                refine wp_istore10 (pc' := 118) rfl (by first | rfl | assumption) rfl ?_
                have lp118 : ∀ rb (k : Nat) (dx dy : Int32) (f : Bool), k + rb = (i / 100 + 2) → dx = rtC (i / 25 % 4) → dy = dnC (i / 25 % 4) → f = decide (isTk i) → WP (d + 1) F_318 118 [.ref 318, .int (nI i), .int (nI (i / 100 + 2)), .int (nI (i / 25 % 4)), .int (nI (i % 25 % 5)), .int (nI (i % 25 / 5)), .int dx, .int dy, .int (if f = true then rtN i k else nI 0), .int (if f = true then nI 1 else nI 0), .int (nI k)] [] (K, upr I 330 (cpy i cellC (I 330)), L, R, n, s) Q := by
                  intro rb; induction rb with
                  | zero =>
                    intro k dx dy f hib hvb0 hvb1 hvb2
                    have hi2b : k = (i / 100 + 2) := by omega
                    subst hi2b
                    refine wp_iload10 (pc' := 120) rfl rfl ?_
                    refine wp_iload2 (pc' := 121) rfl rfl ?_
                    refine wp_icmpgeT rfl (nI_nlt (by omega) (by omega)) ?_
                    refine wp_aload0 (pc' := 162) rfl rfl ?_
                    refine wp_getRF (pc' := 165) rfl rfl (by first | exact TK.k1 hT rfl | exact TK.kk hT rfl | exact TK.r hT rfl | assumption) (by first | exact TK.k1 hT rfl | exact TK.kk hT rfl | exact TK.r hT rfl | assumption) rfl ?_
                    refine wp_iload1 (pc' := 166) rfl rfl ?_
                    refine wp_iload8 (pc' := 168) rfl rfl ?_
                    refine wp_iast _ (pc' := 169) rfl (by first | exact TK.k1 hT rfl | exact TK.kk hT rfl | exact TK.r hT rfl | assumption) (by omega) (by with_reducible rfl) (by omega) (by first | decide | assumption | omega) rfl ?_
                    first | refine wp_iinc1 (w := nI 1) (pc' := 172) rfl rfl rfl (by with_reducible exact nI_add _ _) rfl ?_ | refine wp_iinc1 (w := nI 1) (pc' := 172) rfl rfl rfl rfl rfl ?_
                    refine wp_goto rfl ?_
                    exact WP.cg (ih (i + 1) _ _ _ _ _ _ _ _ _ (by omega) (by first | rfl | assumption) (by first | rfl | assumption) (by first | rfl | assumption) (by first | rfl | assumption) (by first | rfl | assumption) (by first | rfl | assumption) (by first | rfl | assumption) (by first | rfl | assumption) (by first | rfl | assumption)) (lC1 (lI1 (by rfl) (lC1 (lC1 (lC1 (lC1 (lC1 (lC1 (lC1 (lC1 (lC1 rfl))))))))))) rfl (by rw [up2_upr]; first | (rw [rt_fin (by omega) hvb2 (Or.inl rfl)]; exact congrArg (fun r => (K, upr I 330 r, L, R, n, s)) (cpy_up (f := cellC))) | (rw [rt_fin (by omega) hvb2 (Or.inr (Bool.eq_false_iff.mpr h126))]; exact congrArg (fun r => (K, upr I 330 r, L, R, n, s)) (cpy_up (f := cellC))))
                  | succ rb ihb =>
                    intro k dx dy f hib hvb0 hvb1 hvb2
                    have hltb : k < (i / 100 + 2) := by omega
                    refine wp_iload10 (pc' := 120) rfl rfl ?_
                    refine wp_iload2 (pc' := 121) rfl rfl ?_
                    refine wp_icmpgeF (pc' := 124) rfl (nI_lt (by omega) (by omega)) rfl ?_
                    refine wp_iload9 (pc' := 126) rfl rfl ?_
                    first | refine wp_ifeqB (pc' := 129) rfl rfl ?_ ?_ | refine wp_ifeq (pc' := 129) rfl rfl ?_ ?_
                    · intro h126
                      refine wp_aload0 (pc' := 162) rfl rfl ?_
                      refine wp_getRF (pc' := 165) rfl rfl (by first | exact TK.k1 hT rfl | exact TK.kk hT rfl | exact TK.r hT rfl | assumption) (by first | exact TK.k1 hT rfl | exact TK.kk hT rfl | exact TK.r hT rfl | assumption) rfl ?_
                      refine wp_iload1 (pc' := 166) rfl rfl ?_
                      refine wp_iload8 (pc' := 168) rfl rfl ?_
                      refine wp_iast _ (pc' := 169) rfl (by first | exact TK.k1 hT rfl | exact TK.kk hT rfl | exact TK.r hT rfl | assumption) (by omega) (by with_reducible rfl) (by omega) (by first | decide | assumption | omega) rfl ?_
                      first | refine wp_iinc1 (w := nI 1) (pc' := 172) rfl rfl rfl (by with_reducible exact nI_add _ _) rfl ?_ | refine wp_iinc1 (w := nI 1) (pc' := 172) rfl rfl rfl rfl rfl ?_
                      refine wp_goto rfl ?_
                      exact WP.cg (ih (i + 1) _ _ _ _ _ _ _ _ _ (by omega) (by first | rfl | assumption) (by first | rfl | assumption) (by first | rfl | assumption) (by first | rfl | assumption) (by first | rfl | assumption) (by first | rfl | assumption) (by first | rfl | assumption) (by first | rfl | assumption) (by first | rfl | assumption)) (lC1 (lI1 (by rfl) (lC1 (lC1 (lC1 (lC1 (lC1 (lC1 (lC1 (lC1 (lC1 rfl))))))))))) rfl (by rw [up2_upr]; first | (rw [rt_fin (by omega) hvb2 (Or.inl rfl)]; exact congrArg (fun r => (K, upr I 330 r, L, R, n, s)) (cpy_up (f := cellC))) | (rw [rt_fin (by omega) hvb2 (Or.inr (Bool.eq_false_iff.mpr h126))]; exact congrArg (fun r => (K, upr I 330 r, L, R, n, s)) (cpy_up (f := cellC))))
                    · intro h126
                      refine wp_iload8 (pc' := 131) rfl rfl ?_
                      refine wp_iconst (v := nI 1) (pc' := 132) rfl rfl rfl ?_
                      refine wp_iconst (v := nI 5) (pc' := 133) rfl rfl rfl ?_
                      refine wp_iload5 (pc' := 135) rfl rfl ?_
                      refine wp_iload7 (pc' := 137) rfl rfl ?_
                      refine wp_iload10 (pc' := 139) rfl rfl ?_
                      first | refine wp_imulN (pc' := 140) rfl (by with_reducible rfl) (by with_reducible rfl) rfl ?_ | refine wp_imul (pc' := 140) rfl rfl ?_
                      first | refine wp_iaddN (pc' := 141) rfl (by with_reducible rfl) (by with_reducible rfl) rfl ?_ | refine wp_iadd (pc' := 141) rfl rfl ?_
                      first | refine wp_imulN (pc' := 142) rfl (by with_reducible rfl) (by with_reducible rfl) rfl ?_ | refine wp_imul (pc' := 142) rfl rfl ?_
                      refine wp_iload4 (pc' := 144) rfl rfl ?_
                      first | refine wp_iaddN (pc' := 145) rfl (by with_reducible rfl) (by with_reducible rfl) rfl ?_ | refine wp_iadd (pc' := 145) rfl rfl ?_
                      refine wp_iload6 (pc' := 147) rfl rfl ?_
                      refine wp_iload10 (pc' := 149) rfl rfl ?_
                      first | refine wp_imulN (pc' := 150) rfl (by with_reducible rfl) (by with_reducible rfl) rfl ?_ | refine wp_imul (pc' := 150) rfl rfl ?_
                      first | refine wp_iaddN (pc' := 151) rfl (by with_reducible rfl) (by with_reducible rfl) rfl ?_ | refine wp_iadd (pc' := 151) rfl rfl ?_
                      refine wp_ishl (pc' := 152) rfl rfl ?_
                      refine wp_ior (pc' := 153) rfl rfl ?_
                      refine wp_istore8 (pc' := 155) rfl (by first | rfl | assumption) rfl ?_
                      first | refine wp_iinc10 (w := nI 1) (pc' := 158) rfl rfl rfl (by with_reducible exact nI_add _ _) rfl ?_ | refine wp_iinc10 (w := nI 1) (pc' := 158) rfl rfl rfl rfl rfl ?_
                      refine wp_goto rfl ?_
                      exact WP.cg (ihb (k + 1) dx dy f (by omega) hvb0 hvb1 hvb2) (lC1 (lI1 (by first | with_reducible rfl | (rw [if_pos h126, if_pos h126, hvb0, hvb1]; rfl)) (lI1 (by first | with_reducible rfl | (rw [if_pos h126, if_pos h126, hvb0, hvb1]; rfl)) (lI1 (by first | with_reducible rfl | (rw [if_pos h126, if_pos h126, hvb0, hvb1]; rfl)) (lI1 (by first | with_reducible rfl | (rw [if_pos h126, if_pos h126, hvb0, hvb1]; rfl)) (lI1 (by first | with_reducible rfl | (rw [if_pos h126, if_pos h126, hvb0, hvb1]; rfl)) (lI1 (by first | with_reducible rfl | (rw [if_pos h126, if_pos h126, hvb0, hvb1]; rfl)) (lI1 (by first | with_reducible rfl | (rw [if_pos h126, if_pos h126, hvb0, hvb1]; rfl)) (lI1 (by first | with_reducible rfl | (rw [if_pos h126, if_pos h126, hvb0, hvb1]; rfl)) (lI1 (by first | with_reducible rfl | (rw [if_pos h126, if_pos h126, hvb0, hvb1]; rfl)) (lI1 (by first | with_reducible rfl | (rw [if_pos h126, if_pos h126, hvb0, hvb1]; rfl)) rfl))))))))))) rfl (by rfl)
                exact WP.cg (lp118 ((i / 100 + 2) - (0)) (0) _ _ (decide (isTk i)) (by omega) (by unfold rtC; first | exact (if_pos h41).symm | (rw [if_neg h41, if_pos h50]; done) | (rw [if_neg h41, if_neg h50]; done)) (by unfold dnC; first | exact (if_pos h61).symm | exact (if_neg h61).symm) rfl) (lC1 (lI1 (by first | with_reducible rfl | exact fl_t h88 h105 | exact fl_1 h88 | exact fl_2 h105 | exact rt_0) (lI1 (by first | with_reducible rfl | exact fl_t h88 h105 | exact fl_1 h88 | exact fl_2 h105 | exact rt_0) (lI1 (by first | with_reducible rfl | exact fl_t h88 h105 | exact fl_1 h88 | exact fl_2 h105 | exact rt_0) (lI1 (by first | with_reducible rfl | exact fl_t h88 h105 | exact fl_1 h88 | exact fl_2 h105 | exact rt_0) (lI1 (by first | with_reducible rfl | exact fl_t h88 h105 | exact fl_1 h88 | exact fl_2 h105 | exact rt_0) (lI1 (by first | with_reducible rfl | exact fl_t h88 h105 | exact fl_1 h88 | exact fl_2 h105 | exact rt_0) (lI1 (by first | with_reducible rfl | exact fl_t h88 h105 | exact fl_1 h88 | exact fl_2 h105 | exact rt_0) (lI1 (by first | with_reducible rfl | exact fl_t h88 h105 | exact fl_1 h88 | exact fl_2 h105 | exact rt_0) (lI1 (by first | with_reducible rfl | exact fl_t h88 h105 | exact fl_1 h88 | exact fl_2 h105 | exact rt_0) (lI1 (by first | with_reducible rfl | exact fl_t h88 h105 | exact fl_1 h88 | exact fl_2 h105 | exact rt_0) rfl))))))))))) rfl (by rfl)
          · intro h61
            refine wp_iconst (v := nI 0) (pc' := 65) rfl rfl rfl ?_
            refine wp_goto rfl ?_
            refine wp_istore7 (pc' := 71) rfl (by first | rfl | assumption) rfl ?_
            refine wp_iconst (v := nI 0) (pc' := 72) rfl rfl rfl ?_
            refine wp_istore8 (pc' := 74) rfl (by first | rfl | assumption) rfl ?_
            refine wp_iload4 (pc' := 76) rfl rfl ?_
            refine wp_iload6 (pc' := 78) rfl rfl ?_
            refine wp_iload2 (pc' := 79) rfl rfl ?_
            refine wp_iconst (v := nI 1) (pc' := 80) rfl rfl rfl ?_
            first | refine wp_isubN (pc' := 81) rfl (by with_reducible rfl) (by with_reducible rfl) (by omega) rfl ?_ | refine wp_isub (pc' := 81) rfl rfl ?_
            first | refine wp_imulN (pc' := 82) rfl (by with_reducible rfl) (by with_reducible rfl) rfl ?_ | refine wp_imul (pc' := 82) rfl rfl ?_
            first | refine wp_iaddN (pc' := 83) rfl (by with_reducible rfl) (by with_reducible rfl) rfl ?_ | refine wp_iadd (pc' := 83) rfl rfl ?_
            refine wp_iconst (v := nI 0) (pc' := 84) rfl rfl rfl ?_
            refine wp_iconst (v := nI 4) (pc' := 85) rfl rfl rfl ?_
            refine wp_callS3 (pc' := 88) rfl rfl rfl rfl rfl rfl ?_
            refine m_in ?_
            first | rw [show nI (i % 25 % 5 + 1 * (i / 100 + 2 - 1)) = lxC i from by unfold lxC rtC; rw [if_neg h41, if_neg h50, nI_mul, nI_add]] | rw [show nI (i % 25 % 5 + 0 * (i / 100 + 2 - 1)) = lxC i from by unfold lxC rtC; rw [if_pos h41, nI_mul, nI_add]] | rw [show nI (i % 25 % 5) + (-1) * nI (i / 100 + 2 - 1) = lxC i from by unfold lxC rtC; rw [if_neg h41, if_pos h50]]
            refine Cont.v ?_
            first | refine wp_ifeqB (pc' := 91) rfl rfl ?_ ?_ | refine wp_ifeq (pc' := 91) rfl rfl ?_ ?_
            · intro h88
              refine wp_iconst (v := nI 0) (pc' := 113) rfl rfl rfl ?_
              refine wp_istore9 (pc' := 115) rfl (by first | rfl | assumption) rfl ?_
              refine wp_iconst (v := nI 0) (pc' := 116) rfl rfl rfl ?_
              refine wp_istore10 (pc' := 118) rfl (by first | rfl | assumption) rfl ?_
              have lp118 : ∀ rb (k : Nat) (dx dy : Int32) (f : Bool), k + rb = (i / 100 + 2) → dx = rtC (i / 25 % 4) → dy = dnC (i / 25 % 4) → f = decide (isTk i) → WP (d + 1) F_318 118 [.ref 318, .int (nI i), .int (nI (i / 100 + 2)), .int (nI (i / 25 % 4)), .int (nI (i % 25 % 5)), .int (nI (i % 25 / 5)), .int dx, .int dy, .int (if f = true then rtN i k else nI 0), .int (if f = true then nI 1 else nI 0), .int (nI k)] [] (K, upr I 330 (cpy i cellC (I 330)), L, R, n, s) Q := by
                intro rb; induction rb with
                | zero =>
                  intro k dx dy f hib hvb0 hvb1 hvb2
                  have hi2b : k = (i / 100 + 2) := by omega
                  subst hi2b
                  refine wp_iload10 (pc' := 120) rfl rfl ?_
                  refine wp_iload2 (pc' := 121) rfl rfl ?_
                  refine wp_icmpgeT rfl (nI_nlt (by omega) (by omega)) ?_
                  refine wp_aload0 (pc' := 162) rfl rfl ?_
                  refine wp_getRF (pc' := 165) rfl rfl (by first | exact TK.k1 hT rfl | exact TK.kk hT rfl | exact TK.r hT rfl | assumption) (by first | exact TK.k1 hT rfl | exact TK.kk hT rfl | exact TK.r hT rfl | assumption) rfl ?_
                  refine wp_iload1 (pc' := 166) rfl rfl ?_
                  refine wp_iload8 (pc' := 168) rfl rfl ?_
                  refine wp_iast _ (pc' := 169) rfl (by first | exact TK.k1 hT rfl | exact TK.kk hT rfl | exact TK.r hT rfl | assumption) (by omega) (by with_reducible rfl) (by omega) (by first | decide | assumption | omega) rfl ?_
                  first | refine wp_iinc1 (w := nI 1) (pc' := 172) rfl rfl rfl (by with_reducible exact nI_add _ _) rfl ?_ | refine wp_iinc1 (w := nI 1) (pc' := 172) rfl rfl rfl rfl rfl ?_
                  refine wp_goto rfl ?_
                  exact WP.cg (ih (i + 1) _ _ _ _ _ _ _ _ _ (by omega) (by first | rfl | assumption) (by first | rfl | assumption) (by first | rfl | assumption) (by first | rfl | assumption) (by first | rfl | assumption) (by first | rfl | assumption) (by first | rfl | assumption) (by first | rfl | assumption) (by first | rfl | assumption)) (lC1 (lI1 (by rfl) (lC1 (lC1 (lC1 (lC1 (lC1 (lC1 (lC1 (lC1 (lC1 rfl))))))))))) rfl (by rw [up2_upr]; first | (rw [rt_fin (by omega) hvb2 (Or.inl rfl)]; exact congrArg (fun r => (K, upr I 330 r, L, R, n, s)) (cpy_up (f := cellC))) | (rw [rt_fin (by omega) hvb2 (Or.inr (Bool.eq_false_iff.mpr h126))]; exact congrArg (fun r => (K, upr I 330 r, L, R, n, s)) (cpy_up (f := cellC))))
                | succ rb ihb =>
                  intro k dx dy f hib hvb0 hvb1 hvb2
                  have hltb : k < (i / 100 + 2) := by omega
                  refine wp_iload10 (pc' := 120) rfl rfl ?_
                  refine wp_iload2 (pc' := 121) rfl rfl ?_
                  refine wp_icmpgeF (pc' := 124) rfl (nI_lt (by omega) (by omega)) rfl ?_
                  refine wp_iload9 (pc' := 126) rfl rfl ?_
                  first | refine wp_ifeqB (pc' := 129) rfl rfl ?_ ?_ | refine wp_ifeq (pc' := 129) rfl rfl ?_ ?_
                  · intro h126
                    refine wp_aload0 (pc' := 162) rfl rfl ?_
                    refine wp_getRF (pc' := 165) rfl rfl (by first | exact TK.k1 hT rfl | exact TK.kk hT rfl | exact TK.r hT rfl | assumption) (by first | exact TK.k1 hT rfl | exact TK.kk hT rfl | exact TK.r hT rfl | assumption) rfl ?_
                    refine wp_iload1 (pc' := 166) rfl rfl ?_
                    refine wp_iload8 (pc' := 168) rfl rfl ?_
                    refine wp_iast _ (pc' := 169) rfl (by first | exact TK.k1 hT rfl | exact TK.kk hT rfl | exact TK.r hT rfl | assumption) (by omega) (by with_reducible rfl) (by omega) (by first | decide | assumption | omega) rfl ?_
                    first | refine wp_iinc1 (w := nI 1) (pc' := 172) rfl rfl rfl (by with_reducible exact nI_add _ _) rfl ?_ | refine wp_iinc1 (w := nI 1) (pc' := 172) rfl rfl rfl rfl rfl ?_
                    refine wp_goto rfl ?_
                    exact WP.cg (ih (i + 1) _ _ _ _ _ _ _ _ _ (by omega) (by first | rfl | assumption) (by first | rfl | assumption) (by first | rfl | assumption) (by first | rfl | assumption) (by first | rfl | assumption) (by first | rfl | assumption) (by first | rfl | assumption) (by first | rfl | assumption) (by first | rfl | assumption)) (lC1 (lI1 (by rfl) (lC1 (lC1 (lC1 (lC1 (lC1 (lC1 (lC1 (lC1 (lC1 rfl))))))))))) rfl (by rw [up2_upr]; first | (rw [rt_fin (by omega) hvb2 (Or.inl rfl)]; exact congrArg (fun r => (K, upr I 330 r, L, R, n, s)) (cpy_up (f := cellC))) | (rw [rt_fin (by omega) hvb2 (Or.inr (Bool.eq_false_iff.mpr h126))]; exact congrArg (fun r => (K, upr I 330 r, L, R, n, s)) (cpy_up (f := cellC))))
                  · intro h126
                    refine wp_iload8 (pc' := 131) rfl rfl ?_
                    refine wp_iconst (v := nI 1) (pc' := 132) rfl rfl rfl ?_
                    refine wp_iconst (v := nI 5) (pc' := 133) rfl rfl rfl ?_
                    refine wp_iload5 (pc' := 135) rfl rfl ?_
                    refine wp_iload7 (pc' := 137) rfl rfl ?_
                    refine wp_iload10 (pc' := 139) rfl rfl ?_
                    first | refine wp_imulN (pc' := 140) rfl (by with_reducible rfl) (by with_reducible rfl) rfl ?_ | refine wp_imul (pc' := 140) rfl rfl ?_
                    first | refine wp_iaddN (pc' := 141) rfl (by with_reducible rfl) (by with_reducible rfl) rfl ?_ | refine wp_iadd (pc' := 141) rfl rfl ?_
                    first | refine wp_imulN (pc' := 142) rfl (by with_reducible rfl) (by with_reducible rfl) rfl ?_ | refine wp_imul (pc' := 142) rfl rfl ?_
                    refine wp_iload4 (pc' := 144) rfl rfl ?_
                    first | refine wp_iaddN (pc' := 145) rfl (by with_reducible rfl) (by with_reducible rfl) rfl ?_ | refine wp_iadd (pc' := 145) rfl rfl ?_
                    refine wp_iload6 (pc' := 147) rfl rfl ?_
                    refine wp_iload10 (pc' := 149) rfl rfl ?_
                    first | refine wp_imulN (pc' := 150) rfl (by with_reducible rfl) (by with_reducible rfl) rfl ?_ | refine wp_imul (pc' := 150) rfl rfl ?_
                    first | refine wp_iaddN (pc' := 151) rfl (by with_reducible rfl) (by with_reducible rfl) rfl ?_ | refine wp_iadd (pc' := 151) rfl rfl ?_
                    refine wp_ishl (pc' := 152) rfl rfl ?_
                    refine wp_ior (pc' := 153) rfl rfl ?_
                    refine wp_istore8 (pc' := 155) rfl (by first | rfl | assumption) rfl ?_
                    first | refine wp_iinc10 (w := nI 1) (pc' := 158) rfl rfl rfl (by with_reducible exact nI_add _ _) rfl ?_ | refine wp_iinc10 (w := nI 1) (pc' := 158) rfl rfl rfl rfl rfl ?_
                    refine wp_goto rfl ?_
                    exact WP.cg (ihb (k + 1) dx dy f (by omega) hvb0 hvb1 hvb2) (lC1 (lI1 (by first | with_reducible rfl | (rw [if_pos h126, if_pos h126, hvb0, hvb1]; rfl)) (lI1 (by first | with_reducible rfl | (rw [if_pos h126, if_pos h126, hvb0, hvb1]; rfl)) (lI1 (by first | with_reducible rfl | (rw [if_pos h126, if_pos h126, hvb0, hvb1]; rfl)) (lI1 (by first | with_reducible rfl | (rw [if_pos h126, if_pos h126, hvb0, hvb1]; rfl)) (lI1 (by first | with_reducible rfl | (rw [if_pos h126, if_pos h126, hvb0, hvb1]; rfl)) (lI1 (by first | with_reducible rfl | (rw [if_pos h126, if_pos h126, hvb0, hvb1]; rfl)) (lI1 (by first | with_reducible rfl | (rw [if_pos h126, if_pos h126, hvb0, hvb1]; rfl)) (lI1 (by first | with_reducible rfl | (rw [if_pos h126, if_pos h126, hvb0, hvb1]; rfl)) (lI1 (by first | with_reducible rfl | (rw [if_pos h126, if_pos h126, hvb0, hvb1]; rfl)) (lI1 (by first | with_reducible rfl | (rw [if_pos h126, if_pos h126, hvb0, hvb1]; rfl)) rfl))))))))))) rfl (by rfl)
              exact WP.cg (lp118 ((i / 100 + 2) - (0)) (0) _ _ (decide (isTk i)) (by omega) (by unfold rtC; first | exact (if_pos h41).symm | (rw [if_neg h41, if_pos h50]; done) | (rw [if_neg h41, if_neg h50]; done)) (by unfold dnC; first | exact (if_pos h61).symm | exact (if_neg h61).symm) rfl) (lC1 (lI1 (by first | with_reducible rfl | exact fl_t h88 h105 | exact fl_1 h88 | exact fl_2 h105 | exact rt_0) (lI1 (by first | with_reducible rfl | exact fl_t h88 h105 | exact fl_1 h88 | exact fl_2 h105 | exact rt_0) (lI1 (by first | with_reducible rfl | exact fl_t h88 h105 | exact fl_1 h88 | exact fl_2 h105 | exact rt_0) (lI1 (by first | with_reducible rfl | exact fl_t h88 h105 | exact fl_1 h88 | exact fl_2 h105 | exact rt_0) (lI1 (by first | with_reducible rfl | exact fl_t h88 h105 | exact fl_1 h88 | exact fl_2 h105 | exact rt_0) (lI1 (by first | with_reducible rfl | exact fl_t h88 h105 | exact fl_1 h88 | exact fl_2 h105 | exact rt_0) (lI1 (by first | with_reducible rfl | exact fl_t h88 h105 | exact fl_1 h88 | exact fl_2 h105 | exact rt_0) (lI1 (by first | with_reducible rfl | exact fl_t h88 h105 | exact fl_1 h88 | exact fl_2 h105 | exact rt_0) (lI1 (by first | with_reducible rfl | exact fl_t h88 h105 | exact fl_1 h88 | exact fl_2 h105 | exact rt_0) (lI1 (by first | with_reducible rfl | exact fl_t h88 h105 | exact fl_1 h88 | exact fl_2 h105 | exact rt_0) rfl))))))))))) rfl (by rfl)
            · intro h88
              refine wp_iload5 (pc' := 93) rfl rfl ?_
              refine wp_iload7 (pc' := 95) rfl rfl ?_
              refine wp_iload2 (pc' := 96) rfl rfl ?_
              refine wp_iconst (v := nI 1) (pc' := 97) rfl rfl rfl ?_
              first | refine wp_isubN (pc' := 98) rfl (by with_reducible rfl) (by with_reducible rfl) (by omega) rfl ?_ | refine wp_isub (pc' := 98) rfl rfl ?_
              first | refine wp_imulN (pc' := 99) rfl (by with_reducible rfl) (by with_reducible rfl) rfl ?_ | refine wp_imul (pc' := 99) rfl rfl ?_
              first | refine wp_iaddN (pc' := 100) rfl (by with_reducible rfl) (by with_reducible rfl) rfl ?_ | refine wp_iadd (pc' := 100) rfl rfl ?_
              refine wp_iconst (v := nI 0) (pc' := 101) rfl rfl rfl ?_
              refine wp_iconst (v := nI 4) (pc' := 102) rfl rfl rfl ?_
              refine wp_callS3 (pc' := 105) rfl rfl rfl rfl rfl rfl ?_
              refine m_in ?_
              first | rw [show nI (i % 25 / 5 + 1 * (i / 100 + 2 - 1)) = lyC i from by unfold lyC dnC; rw [if_neg h61, nI_mul, nI_add]] | rw [show nI (i % 25 / 5 + 0 * (i / 100 + 2 - 1)) = lyC i from by unfold lyC dnC; rw [if_pos h61, nI_mul, nI_add]]
              refine Cont.v ?_
              first | refine wp_ifeqB (pc' := 108) rfl rfl ?_ ?_ | refine wp_ifeq (pc' := 108) rfl rfl ?_ ?_
              · intro h105
                refine wp_iconst (v := nI 0) (pc' := 113) rfl rfl rfl ?_
                refine wp_istore9 (pc' := 115) rfl (by first | rfl | assumption) rfl ?_
                refine wp_iconst (v := nI 0) (pc' := 116) rfl rfl rfl ?_
                refine wp_istore10 (pc' := 118) rfl (by first | rfl | assumption) rfl ?_
                have lp118 : ∀ rb (k : Nat) (dx dy : Int32) (f : Bool), k + rb = (i / 100 + 2) → dx = rtC (i / 25 % 4) → dy = dnC (i / 25 % 4) → f = decide (isTk i) → WP (d + 1) F_318 118 [.ref 318, .int (nI i), .int (nI (i / 100 + 2)), .int (nI (i / 25 % 4)), .int (nI (i % 25 % 5)), .int (nI (i % 25 / 5)), .int dx, .int dy, .int (if f = true then rtN i k else nI 0), .int (if f = true then nI 1 else nI 0), .int (nI k)] [] (K, upr I 330 (cpy i cellC (I 330)), L, R, n, s) Q := by
                  intro rb; induction rb with
                  | zero =>
                    intro k dx dy f hib hvb0 hvb1 hvb2
                    have hi2b : k = (i / 100 + 2) := by omega
                    subst hi2b
                    refine wp_iload10 (pc' := 120) rfl rfl ?_
                    refine wp_iload2 (pc' := 121) rfl rfl ?_
                    refine wp_icmpgeT rfl (nI_nlt (by omega) (by omega)) ?_
                    refine wp_aload0 (pc' := 162) rfl rfl ?_
                    refine wp_getRF (pc' := 165) rfl rfl (by first | exact TK.k1 hT rfl | exact TK.kk hT rfl | exact TK.r hT rfl | assumption) (by first | exact TK.k1 hT rfl | exact TK.kk hT rfl | exact TK.r hT rfl | assumption) rfl ?_
                    refine wp_iload1 (pc' := 166) rfl rfl ?_
                    refine wp_iload8 (pc' := 168) rfl rfl ?_
                    refine wp_iast _ (pc' := 169) rfl (by first | exact TK.k1 hT rfl | exact TK.kk hT rfl | exact TK.r hT rfl | assumption) (by omega) (by with_reducible rfl) (by omega) (by first | decide | assumption | omega) rfl ?_
                    first | refine wp_iinc1 (w := nI 1) (pc' := 172) rfl rfl rfl (by with_reducible exact nI_add _ _) rfl ?_ | refine wp_iinc1 (w := nI 1) (pc' := 172) rfl rfl rfl rfl rfl ?_
                    refine wp_goto rfl ?_
                    exact WP.cg (ih (i + 1) _ _ _ _ _ _ _ _ _ (by omega) (by first | rfl | assumption) (by first | rfl | assumption) (by first | rfl | assumption) (by first | rfl | assumption) (by first | rfl | assumption) (by first | rfl | assumption) (by first | rfl | assumption) (by first | rfl | assumption) (by first | rfl | assumption)) (lC1 (lI1 (by rfl) (lC1 (lC1 (lC1 (lC1 (lC1 (lC1 (lC1 (lC1 (lC1 rfl))))))))))) rfl (by rw [up2_upr]; first | (rw [rt_fin (by omega) hvb2 (Or.inl rfl)]; exact congrArg (fun r => (K, upr I 330 r, L, R, n, s)) (cpy_up (f := cellC))) | (rw [rt_fin (by omega) hvb2 (Or.inr (Bool.eq_false_iff.mpr h126))]; exact congrArg (fun r => (K, upr I 330 r, L, R, n, s)) (cpy_up (f := cellC))))
                  | succ rb ihb =>
                    intro k dx dy f hib hvb0 hvb1 hvb2
                    have hltb : k < (i / 100 + 2) := by omega
                    refine wp_iload10 (pc' := 120) rfl rfl ?_
                    refine wp_iload2 (pc' := 121) rfl rfl ?_
                    refine wp_icmpgeF (pc' := 124) rfl (nI_lt (by omega) (by omega)) rfl ?_
                    refine wp_iload9 (pc' := 126) rfl rfl ?_
                    first | refine wp_ifeqB (pc' := 129) rfl rfl ?_ ?_ | refine wp_ifeq (pc' := 129) rfl rfl ?_ ?_
                    · intro h126
                      refine wp_aload0 (pc' := 162) rfl rfl ?_
                      refine wp_getRF (pc' := 165) rfl rfl (by first | exact TK.k1 hT rfl | exact TK.kk hT rfl | exact TK.r hT rfl | assumption) (by first | exact TK.k1 hT rfl | exact TK.kk hT rfl | exact TK.r hT rfl | assumption) rfl ?_
                      refine wp_iload1 (pc' := 166) rfl rfl ?_
                      refine wp_iload8 (pc' := 168) rfl rfl ?_
                      refine wp_iast _ (pc' := 169) rfl (by first | exact TK.k1 hT rfl | exact TK.kk hT rfl | exact TK.r hT rfl | assumption) (by omega) (by with_reducible rfl) (by omega) (by first | decide | assumption | omega) rfl ?_
                      first | refine wp_iinc1 (w := nI 1) (pc' := 172) rfl rfl rfl (by with_reducible exact nI_add _ _) rfl ?_ | refine wp_iinc1 (w := nI 1) (pc' := 172) rfl rfl rfl rfl rfl ?_
                      refine wp_goto rfl ?_
                      exact WP.cg (ih (i + 1) _ _ _ _ _ _ _ _ _ (by omega) (by first | rfl | assumption) (by first | rfl | assumption) (by first | rfl | assumption) (by first | rfl | assumption) (by first | rfl | assumption) (by first | rfl | assumption) (by first | rfl | assumption) (by first | rfl | assumption) (by first | rfl | assumption)) (lC1 (lI1 (by rfl) (lC1 (lC1 (lC1 (lC1 (lC1 (lC1 (lC1 (lC1 (lC1 rfl))))))))))) rfl (by rw [up2_upr]; first | (rw [rt_fin (by omega) hvb2 (Or.inl rfl)]; exact congrArg (fun r => (K, upr I 330 r, L, R, n, s)) (cpy_up (f := cellC))) | (rw [rt_fin (by omega) hvb2 (Or.inr (Bool.eq_false_iff.mpr h126))]; exact congrArg (fun r => (K, upr I 330 r, L, R, n, s)) (cpy_up (f := cellC))))
                    · intro h126
                      refine wp_iload8 (pc' := 131) rfl rfl ?_
                      refine wp_iconst (v := nI 1) (pc' := 132) rfl rfl rfl ?_
                      refine wp_iconst (v := nI 5) (pc' := 133) rfl rfl rfl ?_
                      refine wp_iload5 (pc' := 135) rfl rfl ?_
                      refine wp_iload7 (pc' := 137) rfl rfl ?_
                      refine wp_iload10 (pc' := 139) rfl rfl ?_
                      first | refine wp_imulN (pc' := 140) rfl (by with_reducible rfl) (by with_reducible rfl) rfl ?_ | refine wp_imul (pc' := 140) rfl rfl ?_
                      first | refine wp_iaddN (pc' := 141) rfl (by with_reducible rfl) (by with_reducible rfl) rfl ?_ | refine wp_iadd (pc' := 141) rfl rfl ?_
                      first | refine wp_imulN (pc' := 142) rfl (by with_reducible rfl) (by with_reducible rfl) rfl ?_ | refine wp_imul (pc' := 142) rfl rfl ?_
                      refine wp_iload4 (pc' := 144) rfl rfl ?_
                      first | refine wp_iaddN (pc' := 145) rfl (by with_reducible rfl) (by with_reducible rfl) rfl ?_ | refine wp_iadd (pc' := 145) rfl rfl ?_
                      refine wp_iload6 (pc' := 147) rfl rfl ?_
                      refine wp_iload10 (pc' := 149) rfl rfl ?_
                      first | refine wp_imulN (pc' := 150) rfl (by with_reducible rfl) (by with_reducible rfl) rfl ?_ | refine wp_imul (pc' := 150) rfl rfl ?_
                      first | refine wp_iaddN (pc' := 151) rfl (by with_reducible rfl) (by with_reducible rfl) rfl ?_ | refine wp_iadd (pc' := 151) rfl rfl ?_
                      refine wp_ishl (pc' := 152) rfl rfl ?_
                      refine wp_ior (pc' := 153) rfl rfl ?_
                      refine wp_istore8 (pc' := 155) rfl (by first | rfl | assumption) rfl ?_
                      first | refine wp_iinc10 (w := nI 1) (pc' := 158) rfl rfl rfl (by with_reducible exact nI_add _ _) rfl ?_ | refine wp_iinc10 (w := nI 1) (pc' := 158) rfl rfl rfl rfl rfl ?_
                      refine wp_goto rfl ?_
                      exact WP.cg (ihb (k + 1) dx dy f (by omega) hvb0 hvb1 hvb2) (lC1 (lI1 (by first | with_reducible rfl | (rw [if_pos h126, if_pos h126, hvb0, hvb1]; rfl)) (lI1 (by first | with_reducible rfl | (rw [if_pos h126, if_pos h126, hvb0, hvb1]; rfl)) (lI1 (by first | with_reducible rfl | (rw [if_pos h126, if_pos h126, hvb0, hvb1]; rfl)) (lI1 (by first | with_reducible rfl | (rw [if_pos h126, if_pos h126, hvb0, hvb1]; rfl)) (lI1 (by first | with_reducible rfl | (rw [if_pos h126, if_pos h126, hvb0, hvb1]; rfl)) (lI1 (by first | with_reducible rfl | (rw [if_pos h126, if_pos h126, hvb0, hvb1]; rfl)) (lI1 (by first | with_reducible rfl | (rw [if_pos h126, if_pos h126, hvb0, hvb1]; rfl)) (lI1 (by first | with_reducible rfl | (rw [if_pos h126, if_pos h126, hvb0, hvb1]; rfl)) (lI1 (by first | with_reducible rfl | (rw [if_pos h126, if_pos h126, hvb0, hvb1]; rfl)) (lI1 (by first | with_reducible rfl | (rw [if_pos h126, if_pos h126, hvb0, hvb1]; rfl)) rfl))))))))))) rfl (by rfl)
                exact WP.cg (lp118 ((i / 100 + 2) - (0)) (0) _ _ (decide (isTk i)) (by omega) (by unfold rtC; first | exact (if_pos h41).symm | (rw [if_neg h41, if_pos h50]; done) | (rw [if_neg h41, if_neg h50]; done)) (by unfold dnC; first | exact (if_pos h61).symm | exact (if_neg h61).symm) rfl) (lC1 (lI1 (by first | with_reducible rfl | exact fl_t h88 h105 | exact fl_1 h88 | exact fl_2 h105 | exact rt_0) (lI1 (by first | with_reducible rfl | exact fl_t h88 h105 | exact fl_1 h88 | exact fl_2 h105 | exact rt_0) (lI1 (by first | with_reducible rfl | exact fl_t h88 h105 | exact fl_1 h88 | exact fl_2 h105 | exact rt_0) (lI1 (by first | with_reducible rfl | exact fl_t h88 h105 | exact fl_1 h88 | exact fl_2 h105 | exact rt_0) (lI1 (by first | with_reducible rfl | exact fl_t h88 h105 | exact fl_1 h88 | exact fl_2 h105 | exact rt_0) (lI1 (by first | with_reducible rfl | exact fl_t h88 h105 | exact fl_1 h88 | exact fl_2 h105 | exact rt_0) (lI1 (by first | with_reducible rfl | exact fl_t h88 h105 | exact fl_1 h88 | exact fl_2 h105 | exact rt_0) (lI1 (by first | with_reducible rfl | exact fl_t h88 h105 | exact fl_1 h88 | exact fl_2 h105 | exact rt_0) (lI1 (by first | with_reducible rfl | exact fl_t h88 h105 | exact fl_1 h88 | exact fl_2 h105 | exact rt_0) (lI1 (by first | with_reducible rfl | exact fl_t h88 h105 | exact fl_1 h88 | exact fl_2 h105 | exact rt_0) rfl))))))))))) rfl (by rfl)
              · intro h105
                refine wp_iconst (v := nI 1) (pc' := 109) rfl rfl rfl ?_
                refine wp_goto rfl ?_
                refine wp_istore9 (pc' := 115) rfl (by first | rfl | assumption) rfl ?_
                refine wp_iconst (v := nI 0) (pc' := 116) rfl rfl rfl ?_
                refine wp_istore10 (pc' := 118) rfl (by first | rfl | assumption) rfl ?_
                have lp118 : ∀ rb (k : Nat) (dx dy : Int32) (f : Bool), k + rb = (i / 100 + 2) → dx = rtC (i / 25 % 4) → dy = dnC (i / 25 % 4) → f = decide (isTk i) → WP (d + 1) F_318 118 [.ref 318, .int (nI i), .int (nI (i / 100 + 2)), .int (nI (i / 25 % 4)), .int (nI (i % 25 % 5)), .int (nI (i % 25 / 5)), .int dx, .int dy, .int (if f = true then rtN i k else nI 0), .int (if f = true then nI 1 else nI 0), .int (nI k)] [] (K, upr I 330 (cpy i cellC (I 330)), L, R, n, s) Q := by
                  intro rb; induction rb with
                  | zero =>
                    intro k dx dy f hib hvb0 hvb1 hvb2
                    have hi2b : k = (i / 100 + 2) := by omega
                    subst hi2b
                    refine wp_iload10 (pc' := 120) rfl rfl ?_
                    refine wp_iload2 (pc' := 121) rfl rfl ?_
                    refine wp_icmpgeT rfl (nI_nlt (by omega) (by omega)) ?_
                    refine wp_aload0 (pc' := 162) rfl rfl ?_
                    refine wp_getRF (pc' := 165) rfl rfl (by first | exact TK.k1 hT rfl | exact TK.kk hT rfl | exact TK.r hT rfl | assumption) (by first | exact TK.k1 hT rfl | exact TK.kk hT rfl | exact TK.r hT rfl | assumption) rfl ?_
                    refine wp_iload1 (pc' := 166) rfl rfl ?_
                    refine wp_iload8 (pc' := 168) rfl rfl ?_
                    refine wp_iast _ (pc' := 169) rfl (by first | exact TK.k1 hT rfl | exact TK.kk hT rfl | exact TK.r hT rfl | assumption) (by omega) (by with_reducible rfl) (by omega) (by first | decide | assumption | omega) rfl ?_
                    first | refine wp_iinc1 (w := nI 1) (pc' := 172) rfl rfl rfl (by with_reducible exact nI_add _ _) rfl ?_ | refine wp_iinc1 (w := nI 1) (pc' := 172) rfl rfl rfl rfl rfl ?_
                    refine wp_goto rfl ?_
                    exact WP.cg (ih (i + 1) _ _ _ _ _ _ _ _ _ (by omega) (by first | rfl | assumption) (by first | rfl | assumption) (by first | rfl | assumption) (by first | rfl | assumption) (by first | rfl | assumption) (by first | rfl | assumption) (by first | rfl | assumption) (by first | rfl | assumption) (by first | rfl | assumption)) (lC1 (lI1 (by rfl) (lC1 (lC1 (lC1 (lC1 (lC1 (lC1 (lC1 (lC1 (lC1 rfl))))))))))) rfl (by rw [up2_upr]; first | (rw [rt_fin (by omega) hvb2 (Or.inl rfl)]; exact congrArg (fun r => (K, upr I 330 r, L, R, n, s)) (cpy_up (f := cellC))) | (rw [rt_fin (by omega) hvb2 (Or.inr (Bool.eq_false_iff.mpr h126))]; exact congrArg (fun r => (K, upr I 330 r, L, R, n, s)) (cpy_up (f := cellC))))
                  | succ rb ihb =>
                    intro k dx dy f hib hvb0 hvb1 hvb2
                    have hltb : k < (i / 100 + 2) := by omega
                    refine wp_iload10 (pc' := 120) rfl rfl ?_
                    refine wp_iload2 (pc' := 121) rfl rfl ?_
                    refine wp_icmpgeF (pc' := 124) rfl (nI_lt (by omega) (by omega)) rfl ?_
                    refine wp_iload9 (pc' := 126) rfl rfl ?_
                    first | refine wp_ifeqB (pc' := 129) rfl rfl ?_ ?_ | refine wp_ifeq (pc' := 129) rfl rfl ?_ ?_
                    · intro h126
                      refine wp_aload0 (pc' := 162) rfl rfl ?_
                      refine wp_getRF (pc' := 165) rfl rfl (by first | exact TK.k1 hT rfl | exact TK.kk hT rfl | exact TK.r hT rfl | assumption) (by first | exact TK.k1 hT rfl | exact TK.kk hT rfl | exact TK.r hT rfl | assumption) rfl ?_
                      refine wp_iload1 (pc' := 166) rfl rfl ?_
                      refine wp_iload8 (pc' := 168) rfl rfl ?_
                      refine wp_iast _ (pc' := 169) rfl (by first | exact TK.k1 hT rfl | exact TK.kk hT rfl | exact TK.r hT rfl | assumption) (by omega) (by with_reducible rfl) (by omega) (by first | decide | assumption | omega) rfl ?_
                      first | refine wp_iinc1 (w := nI 1) (pc' := 172) rfl rfl rfl (by with_reducible exact nI_add _ _) rfl ?_ | refine wp_iinc1 (w := nI 1) (pc' := 172) rfl rfl rfl rfl rfl ?_
                      refine wp_goto rfl ?_
                      exact WP.cg (ih (i + 1) _ _ _ _ _ _ _ _ _ (by omega) (by first | rfl | assumption) (by first | rfl | assumption) (by first | rfl | assumption) (by first | rfl | assumption) (by first | rfl | assumption) (by first | rfl | assumption) (by first | rfl | assumption) (by first | rfl | assumption) (by first | rfl | assumption)) (lC1 (lI1 (by rfl) (lC1 (lC1 (lC1 (lC1 (lC1 (lC1 (lC1 (lC1 (lC1 rfl))))))))))) rfl (by rw [up2_upr]; first | (rw [rt_fin (by omega) hvb2 (Or.inl rfl)]; exact congrArg (fun r => (K, upr I 330 r, L, R, n, s)) (cpy_up (f := cellC))) | (rw [rt_fin (by omega) hvb2 (Or.inr (Bool.eq_false_iff.mpr h126))]; exact congrArg (fun r => (K, upr I 330 r, L, R, n, s)) (cpy_up (f := cellC))))
                    · intro h126
                      refine wp_iload8 (pc' := 131) rfl rfl ?_
                      refine wp_iconst (v := nI 1) (pc' := 132) rfl rfl rfl ?_
                      refine wp_iconst (v := nI 5) (pc' := 133) rfl rfl rfl ?_
                      refine wp_iload5 (pc' := 135) rfl rfl ?_
                      refine wp_iload7 (pc' := 137) rfl rfl ?_
                      refine wp_iload10 (pc' := 139) rfl rfl ?_
                      first | refine wp_imulN (pc' := 140) rfl (by with_reducible rfl) (by with_reducible rfl) rfl ?_ | refine wp_imul (pc' := 140) rfl rfl ?_
                      first | refine wp_iaddN (pc' := 141) rfl (by with_reducible rfl) (by with_reducible rfl) rfl ?_ | refine wp_iadd (pc' := 141) rfl rfl ?_
                      first | refine wp_imulN (pc' := 142) rfl (by with_reducible rfl) (by with_reducible rfl) rfl ?_ | refine wp_imul (pc' := 142) rfl rfl ?_
                      refine wp_iload4 (pc' := 144) rfl rfl ?_
                      first | refine wp_iaddN (pc' := 145) rfl (by with_reducible rfl) (by with_reducible rfl) rfl ?_ | refine wp_iadd (pc' := 145) rfl rfl ?_
                      refine wp_iload6 (pc' := 147) rfl rfl ?_
                      refine wp_iload10 (pc' := 149) rfl rfl ?_
                      first | refine wp_imulN (pc' := 150) rfl (by with_reducible rfl) (by with_reducible rfl) rfl ?_ | refine wp_imul (pc' := 150) rfl rfl ?_
                      first | refine wp_iaddN (pc' := 151) rfl (by with_reducible rfl) (by with_reducible rfl) rfl ?_ | refine wp_iadd (pc' := 151) rfl rfl ?_
                      refine wp_ishl (pc' := 152) rfl rfl ?_
                      refine wp_ior (pc' := 153) rfl rfl ?_
                      refine wp_istore8 (pc' := 155) rfl (by first | rfl | assumption) rfl ?_
                      first | refine wp_iinc10 (w := nI 1) (pc' := 158) rfl rfl rfl (by with_reducible exact nI_add _ _) rfl ?_ | refine wp_iinc10 (w := nI 1) (pc' := 158) rfl rfl rfl rfl rfl ?_
                      refine wp_goto rfl ?_
                      exact WP.cg (ihb (k + 1) dx dy f (by omega) hvb0 hvb1 hvb2) (lC1 (lI1 (by first | with_reducible rfl | (rw [if_pos h126, if_pos h126, hvb0, hvb1]; rfl)) (lI1 (by first | with_reducible rfl | (rw [if_pos h126, if_pos h126, hvb0, hvb1]; rfl)) (lI1 (by first | with_reducible rfl | (rw [if_pos h126, if_pos h126, hvb0, hvb1]; rfl)) (lI1 (by first | with_reducible rfl | (rw [if_pos h126, if_pos h126, hvb0, hvb1]; rfl)) (lI1 (by first | with_reducible rfl | (rw [if_pos h126, if_pos h126, hvb0, hvb1]; rfl)) (lI1 (by first | with_reducible rfl | (rw [if_pos h126, if_pos h126, hvb0, hvb1]; rfl)) (lI1 (by first | with_reducible rfl | (rw [if_pos h126, if_pos h126, hvb0, hvb1]; rfl)) (lI1 (by first | with_reducible rfl | (rw [if_pos h126, if_pos h126, hvb0, hvb1]; rfl)) (lI1 (by first | with_reducible rfl | (rw [if_pos h126, if_pos h126, hvb0, hvb1]; rfl)) (lI1 (by first | with_reducible rfl | (rw [if_pos h126, if_pos h126, hvb0, hvb1]; rfl)) rfl))))))))))) rfl (by rfl)
                exact WP.cg (lp118 ((i / 100 + 2) - (0)) (0) _ _ (decide (isTk i)) (by omega) (by unfold rtC; first | exact (if_pos h41).symm | (rw [if_neg h41, if_pos h50]; done) | (rw [if_neg h41, if_neg h50]; done)) (by unfold dnC; first | exact (if_pos h61).symm | exact (if_neg h61).symm) rfl) (lC1 (lI1 (by first | with_reducible rfl | exact fl_t h88 h105 | exact fl_1 h88 | exact fl_2 h105 | exact rt_0) (lI1 (by first | with_reducible rfl | exact fl_t h88 h105 | exact fl_1 h88 | exact fl_2 h105 | exact rt_0) (lI1 (by first | with_reducible rfl | exact fl_t h88 h105 | exact fl_1 h88 | exact fl_2 h105 | exact rt_0) (lI1 (by first | with_reducible rfl | exact fl_t h88 h105 | exact fl_1 h88 | exact fl_2 h105 | exact rt_0) (lI1 (by first | with_reducible rfl | exact fl_t h88 h105 | exact fl_1 h88 | exact fl_2 h105 | exact rt_0) (lI1 (by first | with_reducible rfl | exact fl_t h88 h105 | exact fl_1 h88 | exact fl_2 h105 | exact rt_0) (lI1 (by first | with_reducible rfl | exact fl_t h88 h105 | exact fl_1 h88 | exact fl_2 h105 | exact rt_0) (lI1 (by first | with_reducible rfl | exact fl_t h88 h105 | exact fl_1 h88 | exact fl_2 h105 | exact rt_0) (lI1 (by first | with_reducible rfl | exact fl_t h88 h105 | exact fl_1 h88 | exact fl_2 h105 | exact rt_0) (lI1 (by first | with_reducible rfl | exact fl_t h88 h105 | exact fl_1 h88 | exact fl_2 h105 | exact rt_0) rfl))))))))))) rfl (by rfl)
        · intro h50
          refine wp_iconst (v := (-1)) (pc' := 54) rfl rfl rfl ?_
          refine wp_goto rfl ?_
          refine wp_istore6 (pc' := 60) rfl (by first | rfl | assumption) rfl ?_
          refine wp_iload3 (pc' := 61) rfl rfl ?_
          first | refine wp_ifneB (pc' := 64) rfl rfl ?_ ?_ | refine wp_ifne (pc' := 64) rfl rfl ?_ ?_
          · intro h61
            refine wp_iconst (v := nI 1) (pc' := 69) rfl rfl rfl ?_
            refine wp_istore7 (pc' := 71) rfl (by first | rfl | assumption) rfl ?_
            refine wp_iconst (v := nI 0) (pc' := 72) rfl rfl rfl ?_
            refine wp_istore8 (pc' := 74) rfl (by first | rfl | assumption) rfl ?_
            refine wp_iload4 (pc' := 76) rfl rfl ?_
            refine wp_iload6 (pc' := 78) rfl rfl ?_
            refine wp_iload2 (pc' := 79) rfl rfl ?_
            refine wp_iconst (v := nI 1) (pc' := 80) rfl rfl rfl ?_
            first | refine wp_isubN (pc' := 81) rfl (by with_reducible rfl) (by with_reducible rfl) (by omega) rfl ?_ | refine wp_isub (pc' := 81) rfl rfl ?_
            first | refine wp_imulN (pc' := 82) rfl (by with_reducible rfl) (by with_reducible rfl) rfl ?_ | refine wp_imul (pc' := 82) rfl rfl ?_
            first | refine wp_iaddN (pc' := 83) rfl (by with_reducible rfl) (by with_reducible rfl) rfl ?_ | refine wp_iadd (pc' := 83) rfl rfl ?_
            refine wp_iconst (v := nI 0) (pc' := 84) rfl rfl rfl ?_
            refine wp_iconst (v := nI 4) (pc' := 85) rfl rfl rfl ?_
            refine wp_callS3 (pc' := 88) rfl rfl rfl rfl rfl rfl ?_
            refine m_in ?_
            first | rw [show nI (i % 25 % 5 + 1 * (i / 100 + 2 - 1)) = lxC i from by unfold lxC rtC; rw [if_neg h41, if_neg h50, nI_mul, nI_add]] | rw [show nI (i % 25 % 5 + 0 * (i / 100 + 2 - 1)) = lxC i from by unfold lxC rtC; rw [if_pos h41, nI_mul, nI_add]] | rw [show nI (i % 25 % 5) + (-1) * nI (i / 100 + 2 - 1) = lxC i from by unfold lxC rtC; rw [if_neg h41, if_pos h50]]
            refine Cont.v ?_
            first | refine wp_ifeqB (pc' := 91) rfl rfl ?_ ?_ | refine wp_ifeq (pc' := 91) rfl rfl ?_ ?_
            · intro h88
              refine wp_iconst (v := nI 0) (pc' := 113) rfl rfl rfl ?_
              refine wp_istore9 (pc' := 115) rfl (by first | rfl | assumption) rfl ?_
              refine wp_iconst (v := nI 0) (pc' := 116) rfl rfl rfl ?_
              refine wp_istore10 (pc' := 118) rfl (by first | rfl | assumption) rfl ?_
              have lp118 : ∀ rb (k : Nat) (dx dy : Int32) (f : Bool), k + rb = (i / 100 + 2) → dx = rtC (i / 25 % 4) → dy = dnC (i / 25 % 4) → f = decide (isTk i) → WP (d + 1) F_318 118 [.ref 318, .int (nI i), .int (nI (i / 100 + 2)), .int (nI (i / 25 % 4)), .int (nI (i % 25 % 5)), .int (nI (i % 25 / 5)), .int dx, .int dy, .int (if f = true then rtN i k else nI 0), .int (if f = true then nI 1 else nI 0), .int (nI k)] [] (K, upr I 330 (cpy i cellC (I 330)), L, R, n, s) Q := by
                intro rb; induction rb with
                | zero =>
                  intro k dx dy f hib hvb0 hvb1 hvb2
                  have hi2b : k = (i / 100 + 2) := by omega
                  subst hi2b
                  refine wp_iload10 (pc' := 120) rfl rfl ?_
                  refine wp_iload2 (pc' := 121) rfl rfl ?_
                  refine wp_icmpgeT rfl (nI_nlt (by omega) (by omega)) ?_
                  refine wp_aload0 (pc' := 162) rfl rfl ?_
                  refine wp_getRF (pc' := 165) rfl rfl (by first | exact TK.k1 hT rfl | exact TK.kk hT rfl | exact TK.r hT rfl | assumption) (by first | exact TK.k1 hT rfl | exact TK.kk hT rfl | exact TK.r hT rfl | assumption) rfl ?_
                  refine wp_iload1 (pc' := 166) rfl rfl ?_
                  refine wp_iload8 (pc' := 168) rfl rfl ?_
                  refine wp_iast _ (pc' := 169) rfl (by first | exact TK.k1 hT rfl | exact TK.kk hT rfl | exact TK.r hT rfl | assumption) (by omega) (by with_reducible rfl) (by omega) (by first | decide | assumption | omega) rfl ?_
                  first | refine wp_iinc1 (w := nI 1) (pc' := 172) rfl rfl rfl (by with_reducible exact nI_add _ _) rfl ?_ | refine wp_iinc1 (w := nI 1) (pc' := 172) rfl rfl rfl rfl rfl ?_
                  refine wp_goto rfl ?_
                  exact WP.cg (ih (i + 1) _ _ _ _ _ _ _ _ _ (by omega) (by first | rfl | assumption) (by first | rfl | assumption) (by first | rfl | assumption) (by first | rfl | assumption) (by first | rfl | assumption) (by first | rfl | assumption) (by first | rfl | assumption) (by first | rfl | assumption) (by first | rfl | assumption)) (lC1 (lI1 (by rfl) (lC1 (lC1 (lC1 (lC1 (lC1 (lC1 (lC1 (lC1 (lC1 rfl))))))))))) rfl (by rw [up2_upr]; first | (rw [rt_fin (by omega) hvb2 (Or.inl rfl)]; exact congrArg (fun r => (K, upr I 330 r, L, R, n, s)) (cpy_up (f := cellC))) | (rw [rt_fin (by omega) hvb2 (Or.inr (Bool.eq_false_iff.mpr h126))]; exact congrArg (fun r => (K, upr I 330 r, L, R, n, s)) (cpy_up (f := cellC))))
                | succ rb ihb =>
                  intro k dx dy f hib hvb0 hvb1 hvb2
                  have hltb : k < (i / 100 + 2) := by omega
                  refine wp_iload10 (pc' := 120) rfl rfl ?_
                  refine wp_iload2 (pc' := 121) rfl rfl ?_
                  refine wp_icmpgeF (pc' := 124) rfl (nI_lt (by omega) (by omega)) rfl ?_
                  refine wp_iload9 (pc' := 126) rfl rfl ?_
                  first | refine wp_ifeqB (pc' := 129) rfl rfl ?_ ?_ | refine wp_ifeq (pc' := 129) rfl rfl ?_ ?_
                  · intro h126
                    refine wp_aload0 (pc' := 162) rfl rfl ?_
                    refine wp_getRF (pc' := 165) rfl rfl (by first | exact TK.k1 hT rfl | exact TK.kk hT rfl | exact TK.r hT rfl | assumption) (by first | exact TK.k1 hT rfl | exact TK.kk hT rfl | exact TK.r hT rfl | assumption) rfl ?_
                    refine wp_iload1 (pc' := 166) rfl rfl ?_
                    refine wp_iload8 (pc' := 168) rfl rfl ?_
                    refine wp_iast _ (pc' := 169) rfl (by first | exact TK.k1 hT rfl | exact TK.kk hT rfl | exact TK.r hT rfl | assumption) (by omega) (by with_reducible rfl) (by omega) (by first | decide | assumption | omega) rfl ?_
                    first | refine wp_iinc1 (w := nI 1) (pc' := 172) rfl rfl rfl (by with_reducible exact nI_add _ _) rfl ?_ | refine wp_iinc1 (w := nI 1) (pc' := 172) rfl rfl rfl rfl rfl ?_
                    refine wp_goto rfl ?_
                    exact WP.cg (ih (i + 1) _ _ _ _ _ _ _ _ _ (by omega) (by first | rfl | assumption) (by first | rfl | assumption) (by first | rfl | assumption) (by first | rfl | assumption) (by first | rfl | assumption) (by first | rfl | assumption) (by first | rfl | assumption) (by first | rfl | assumption) (by first | rfl | assumption)) (lC1 (lI1 (by rfl) (lC1 (lC1 (lC1 (lC1 (lC1 (lC1 (lC1 (lC1 (lC1 rfl))))))))))) rfl (by rw [up2_upr]; first | (rw [rt_fin (by omega) hvb2 (Or.inl rfl)]; exact congrArg (fun r => (K, upr I 330 r, L, R, n, s)) (cpy_up (f := cellC))) | (rw [rt_fin (by omega) hvb2 (Or.inr (Bool.eq_false_iff.mpr h126))]; exact congrArg (fun r => (K, upr I 330 r, L, R, n, s)) (cpy_up (f := cellC))))
                  · intro h126
                    refine wp_iload8 (pc' := 131) rfl rfl ?_
                    refine wp_iconst (v := nI 1) (pc' := 132) rfl rfl rfl ?_
                    refine wp_iconst (v := nI 5) (pc' := 133) rfl rfl rfl ?_
                    refine wp_iload5 (pc' := 135) rfl rfl ?_
                    refine wp_iload7 (pc' := 137) rfl rfl ?_
                    refine wp_iload10 (pc' := 139) rfl rfl ?_
                    first | refine wp_imulN (pc' := 140) rfl (by with_reducible rfl) (by with_reducible rfl) rfl ?_ | refine wp_imul (pc' := 140) rfl rfl ?_
                    first | refine wp_iaddN (pc' := 141) rfl (by with_reducible rfl) (by with_reducible rfl) rfl ?_ | refine wp_iadd (pc' := 141) rfl rfl ?_
                    first | refine wp_imulN (pc' := 142) rfl (by with_reducible rfl) (by with_reducible rfl) rfl ?_ | refine wp_imul (pc' := 142) rfl rfl ?_
                    refine wp_iload4 (pc' := 144) rfl rfl ?_
                    first | refine wp_iaddN (pc' := 145) rfl (by with_reducible rfl) (by with_reducible rfl) rfl ?_ | refine wp_iadd (pc' := 145) rfl rfl ?_
                    refine wp_iload6 (pc' := 147) rfl rfl ?_
                    refine wp_iload10 (pc' := 149) rfl rfl ?_
                    first | refine wp_imulN (pc' := 150) rfl (by with_reducible rfl) (by with_reducible rfl) rfl ?_ | refine wp_imul (pc' := 150) rfl rfl ?_
                    first | refine wp_iaddN (pc' := 151) rfl (by with_reducible rfl) (by with_reducible rfl) rfl ?_ | refine wp_iadd (pc' := 151) rfl rfl ?_
                    refine wp_ishl (pc' := 152) rfl rfl ?_
                    refine wp_ior (pc' := 153) rfl rfl ?_
                    refine wp_istore8 (pc' := 155) rfl (by first | rfl | assumption) rfl ?_
                    first | refine wp_iinc10 (w := nI 1) (pc' := 158) rfl rfl rfl (by with_reducible exact nI_add _ _) rfl ?_ | refine wp_iinc10 (w := nI 1) (pc' := 158) rfl rfl rfl rfl rfl ?_
                    refine wp_goto rfl ?_
                    exact WP.cg (ihb (k + 1) dx dy f (by omega) hvb0 hvb1 hvb2) (lC1 (lI1 (by first | with_reducible rfl | (rw [if_pos h126, if_pos h126, hvb0, hvb1]; rfl)) (lI1 (by first | with_reducible rfl | (rw [if_pos h126, if_pos h126, hvb0, hvb1]; rfl)) (lI1 (by first | with_reducible rfl | (rw [if_pos h126, if_pos h126, hvb0, hvb1]; rfl)) (lI1 (by first | with_reducible rfl | (rw [if_pos h126, if_pos h126, hvb0, hvb1]; rfl)) (lI1 (by first | with_reducible rfl | (rw [if_pos h126, if_pos h126, hvb0, hvb1]; rfl)) (lI1 (by first | with_reducible rfl | (rw [if_pos h126, if_pos h126, hvb0, hvb1]; rfl)) (lI1 (by first | with_reducible rfl | (rw [if_pos h126, if_pos h126, hvb0, hvb1]; rfl)) (lI1 (by first | with_reducible rfl | (rw [if_pos h126, if_pos h126, hvb0, hvb1]; rfl)) (lI1 (by first | with_reducible rfl | (rw [if_pos h126, if_pos h126, hvb0, hvb1]; rfl)) (lI1 (by first | with_reducible rfl | (rw [if_pos h126, if_pos h126, hvb0, hvb1]; rfl)) rfl))))))))))) rfl (by rfl)
              exact WP.cg (lp118 ((i / 100 + 2) - (0)) (0) _ _ (decide (isTk i)) (by omega) (by unfold rtC; first | exact (if_pos h41).symm | (rw [if_neg h41, if_pos h50]; done) | (rw [if_neg h41, if_neg h50]; done)) (by unfold dnC; first | exact (if_pos h61).symm | exact (if_neg h61).symm) rfl) (lC1 (lI1 (by first | with_reducible rfl | exact fl_t h88 h105 | exact fl_1 h88 | exact fl_2 h105 | exact rt_0) (lI1 (by first | with_reducible rfl | exact fl_t h88 h105 | exact fl_1 h88 | exact fl_2 h105 | exact rt_0) (lI1 (by first | with_reducible rfl | exact fl_t h88 h105 | exact fl_1 h88 | exact fl_2 h105 | exact rt_0) (lI1 (by first | with_reducible rfl | exact fl_t h88 h105 | exact fl_1 h88 | exact fl_2 h105 | exact rt_0) (lI1 (by first | with_reducible rfl | exact fl_t h88 h105 | exact fl_1 h88 | exact fl_2 h105 | exact rt_0) (lI1 (by first | with_reducible rfl | exact fl_t h88 h105 | exact fl_1 h88 | exact fl_2 h105 | exact rt_0) (lI1 (by first | with_reducible rfl | exact fl_t h88 h105 | exact fl_1 h88 | exact fl_2 h105 | exact rt_0) (lI1 (by first | with_reducible rfl | exact fl_t h88 h105 | exact fl_1 h88 | exact fl_2 h105 | exact rt_0) (lI1 (by first | with_reducible rfl | exact fl_t h88 h105 | exact fl_1 h88 | exact fl_2 h105 | exact rt_0) (lI1 (by first | with_reducible rfl | exact fl_t h88 h105 | exact fl_1 h88 | exact fl_2 h105 | exact rt_0) rfl))))))))))) rfl (by rfl)
            · intro h88
              refine wp_iload5 (pc' := 93) rfl rfl ?_
              refine wp_iload7 (pc' := 95) rfl rfl ?_
              refine wp_iload2 (pc' := 96) rfl rfl ?_
              refine wp_iconst (v := nI 1) (pc' := 97) rfl rfl rfl ?_
              first | refine wp_isubN (pc' := 98) rfl (by with_reducible rfl) (by with_reducible rfl) (by omega) rfl ?_ | refine wp_isub (pc' := 98) rfl rfl ?_
              first | refine wp_imulN (pc' := 99) rfl (by with_reducible rfl) (by with_reducible rfl) rfl ?_ | refine wp_imul (pc' := 99) rfl rfl ?_
              first | refine wp_iaddN (pc' := 100) rfl (by with_reducible rfl) (by with_reducible rfl) rfl ?_ | refine wp_iadd (pc' := 100) rfl rfl ?_
              refine wp_iconst (v := nI 0) (pc' := 101) rfl rfl rfl ?_
              refine wp_iconst (v := nI 4) (pc' := 102) rfl rfl rfl ?_
              refine wp_callS3 (pc' := 105) rfl rfl rfl rfl rfl rfl ?_
              refine m_in ?_
              first | rw [show nI (i % 25 / 5 + 1 * (i / 100 + 2 - 1)) = lyC i from by unfold lyC dnC; rw [if_neg h61, nI_mul, nI_add]] | rw [show nI (i % 25 / 5 + 0 * (i / 100 + 2 - 1)) = lyC i from by unfold lyC dnC; rw [if_pos h61, nI_mul, nI_add]]
              refine Cont.v ?_
              first | refine wp_ifeqB (pc' := 108) rfl rfl ?_ ?_ | refine wp_ifeq (pc' := 108) rfl rfl ?_ ?_
              · intro h105
                refine wp_iconst (v := nI 0) (pc' := 113) rfl rfl rfl ?_
                refine wp_istore9 (pc' := 115) rfl (by first | rfl | assumption) rfl ?_
                refine wp_iconst (v := nI 0) (pc' := 116) rfl rfl rfl ?_
                refine wp_istore10 (pc' := 118) rfl (by first | rfl | assumption) rfl ?_
                have lp118 : ∀ rb (k : Nat) (dx dy : Int32) (f : Bool), k + rb = (i / 100 + 2) → dx = rtC (i / 25 % 4) → dy = dnC (i / 25 % 4) → f = decide (isTk i) → WP (d + 1) F_318 118 [.ref 318, .int (nI i), .int (nI (i / 100 + 2)), .int (nI (i / 25 % 4)), .int (nI (i % 25 % 5)), .int (nI (i % 25 / 5)), .int dx, .int dy, .int (if f = true then rtN i k else nI 0), .int (if f = true then nI 1 else nI 0), .int (nI k)] [] (K, upr I 330 (cpy i cellC (I 330)), L, R, n, s) Q := by
                  intro rb; induction rb with
                  | zero =>
                    intro k dx dy f hib hvb0 hvb1 hvb2
                    have hi2b : k = (i / 100 + 2) := by omega
                    subst hi2b
                    refine wp_iload10 (pc' := 120) rfl rfl ?_
                    refine wp_iload2 (pc' := 121) rfl rfl ?_
                    refine wp_icmpgeT rfl (nI_nlt (by omega) (by omega)) ?_
                    refine wp_aload0 (pc' := 162) rfl rfl ?_
                    refine wp_getRF (pc' := 165) rfl rfl (by first | exact TK.k1 hT rfl | exact TK.kk hT rfl | exact TK.r hT rfl | assumption) (by first | exact TK.k1 hT rfl | exact TK.kk hT rfl | exact TK.r hT rfl | assumption) rfl ?_
                    refine wp_iload1 (pc' := 166) rfl rfl ?_
                    refine wp_iload8 (pc' := 168) rfl rfl ?_
                    refine wp_iast _ (pc' := 169) rfl (by first | exact TK.k1 hT rfl | exact TK.kk hT rfl | exact TK.r hT rfl | assumption) (by omega) (by with_reducible rfl) (by omega) (by first | decide | assumption | omega) rfl ?_
                    first | refine wp_iinc1 (w := nI 1) (pc' := 172) rfl rfl rfl (by with_reducible exact nI_add _ _) rfl ?_ | refine wp_iinc1 (w := nI 1) (pc' := 172) rfl rfl rfl rfl rfl ?_
                    refine wp_goto rfl ?_
                    exact WP.cg (ih (i + 1) _ _ _ _ _ _ _ _ _ (by omega) (by first | rfl | assumption) (by first | rfl | assumption) (by first | rfl | assumption) (by first | rfl | assumption) (by first | rfl | assumption) (by first | rfl | assumption) (by first | rfl | assumption) (by first | rfl | assumption) (by first | rfl | assumption)) (lC1 (lI1 (by rfl) (lC1 (lC1 (lC1 (lC1 (lC1 (lC1 (lC1 (lC1 (lC1 rfl))))))))))) rfl (by rw [up2_upr]; first | (rw [rt_fin (by omega) hvb2 (Or.inl rfl)]; exact congrArg (fun r => (K, upr I 330 r, L, R, n, s)) (cpy_up (f := cellC))) | (rw [rt_fin (by omega) hvb2 (Or.inr (Bool.eq_false_iff.mpr h126))]; exact congrArg (fun r => (K, upr I 330 r, L, R, n, s)) (cpy_up (f := cellC))))
                  | succ rb ihb =>
                    intro k dx dy f hib hvb0 hvb1 hvb2
                    have hltb : k < (i / 100 + 2) := by omega
                    refine wp_iload10 (pc' := 120) rfl rfl ?_
                    refine wp_iload2 (pc' := 121) rfl rfl ?_
                    refine wp_icmpgeF (pc' := 124) rfl (nI_lt (by omega) (by omega)) rfl ?_
                    refine wp_iload9 (pc' := 126) rfl rfl ?_
                    first | refine wp_ifeqB (pc' := 129) rfl rfl ?_ ?_ | refine wp_ifeq (pc' := 129) rfl rfl ?_ ?_
                    · intro h126
                      refine wp_aload0 (pc' := 162) rfl rfl ?_
                      refine wp_getRF (pc' := 165) rfl rfl (by first | exact TK.k1 hT rfl | exact TK.kk hT rfl | exact TK.r hT rfl | assumption) (by first | exact TK.k1 hT rfl | exact TK.kk hT rfl | exact TK.r hT rfl | assumption) rfl ?_
                      refine wp_iload1 (pc' := 166) rfl rfl ?_
                      refine wp_iload8 (pc' := 168) rfl rfl ?_
                      refine wp_iast _ (pc' := 169) rfl (by first | exact TK.k1 hT rfl | exact TK.kk hT rfl | exact TK.r hT rfl | assumption) (by omega) (by with_reducible rfl) (by omega) (by first | decide | assumption | omega) rfl ?_
                      first | refine wp_iinc1 (w := nI 1) (pc' := 172) rfl rfl rfl (by with_reducible exact nI_add _ _) rfl ?_ | refine wp_iinc1 (w := nI 1) (pc' := 172) rfl rfl rfl rfl rfl ?_
                      refine wp_goto rfl ?_
                      exact WP.cg (ih (i + 1) _ _ _ _ _ _ _ _ _ (by omega) (by first | rfl | assumption) (by first | rfl | assumption) (by first | rfl | assumption) (by first | rfl | assumption) (by first | rfl | assumption) (by first | rfl | assumption) (by first | rfl | assumption) (by first | rfl | assumption) (by first | rfl | assumption)) (lC1 (lI1 (by rfl) (lC1 (lC1 (lC1 (lC1 (lC1 (lC1 (lC1 (lC1 (lC1 rfl))))))))))) rfl (by rw [up2_upr]; first | (rw [rt_fin (by omega) hvb2 (Or.inl rfl)]; exact congrArg (fun r => (K, upr I 330 r, L, R, n, s)) (cpy_up (f := cellC))) | (rw [rt_fin (by omega) hvb2 (Or.inr (Bool.eq_false_iff.mpr h126))]; exact congrArg (fun r => (K, upr I 330 r, L, R, n, s)) (cpy_up (f := cellC))))
                    · intro h126
                      refine wp_iload8 (pc' := 131) rfl rfl ?_
                      refine wp_iconst (v := nI 1) (pc' := 132) rfl rfl rfl ?_
                      refine wp_iconst (v := nI 5) (pc' := 133) rfl rfl rfl ?_
                      refine wp_iload5 (pc' := 135) rfl rfl ?_
                      refine wp_iload7 (pc' := 137) rfl rfl ?_
                      refine wp_iload10 (pc' := 139) rfl rfl ?_
                      first | refine wp_imulN (pc' := 140) rfl (by with_reducible rfl) (by with_reducible rfl) rfl ?_ | refine wp_imul (pc' := 140) rfl rfl ?_
                      first | refine wp_iaddN (pc' := 141) rfl (by with_reducible rfl) (by with_reducible rfl) rfl ?_ | refine wp_iadd (pc' := 141) rfl rfl ?_
                      first | refine wp_imulN (pc' := 142) rfl (by with_reducible rfl) (by with_reducible rfl) rfl ?_ | refine wp_imul (pc' := 142) rfl rfl ?_
                      refine wp_iload4 (pc' := 144) rfl rfl ?_
                      first | refine wp_iaddN (pc' := 145) rfl (by with_reducible rfl) (by with_reducible rfl) rfl ?_ | refine wp_iadd (pc' := 145) rfl rfl ?_
                      refine wp_iload6 (pc' := 147) rfl rfl ?_
                      refine wp_iload10 (pc' := 149) rfl rfl ?_
                      first | refine wp_imulN (pc' := 150) rfl (by with_reducible rfl) (by with_reducible rfl) rfl ?_ | refine wp_imul (pc' := 150) rfl rfl ?_
                      first | refine wp_iaddN (pc' := 151) rfl (by with_reducible rfl) (by with_reducible rfl) rfl ?_ | refine wp_iadd (pc' := 151) rfl rfl ?_
                      refine wp_ishl (pc' := 152) rfl rfl ?_
                      refine wp_ior (pc' := 153) rfl rfl ?_
                      refine wp_istore8 (pc' := 155) rfl (by first | rfl | assumption) rfl ?_
                      first | refine wp_iinc10 (w := nI 1) (pc' := 158) rfl rfl rfl (by with_reducible exact nI_add _ _) rfl ?_ | refine wp_iinc10 (w := nI 1) (pc' := 158) rfl rfl rfl rfl rfl ?_
                      refine wp_goto rfl ?_
                      exact WP.cg (ihb (k + 1) dx dy f (by omega) hvb0 hvb1 hvb2) (lC1 (lI1 (by first | with_reducible rfl | (rw [if_pos h126, if_pos h126, hvb0, hvb1]; rfl)) (lI1 (by first | with_reducible rfl | (rw [if_pos h126, if_pos h126, hvb0, hvb1]; rfl)) (lI1 (by first | with_reducible rfl | (rw [if_pos h126, if_pos h126, hvb0, hvb1]; rfl)) (lI1 (by first | with_reducible rfl | (rw [if_pos h126, if_pos h126, hvb0, hvb1]; rfl)) (lI1 (by first | with_reducible rfl | (rw [if_pos h126, if_pos h126, hvb0, hvb1]; rfl)) (lI1 (by first | with_reducible rfl | (rw [if_pos h126, if_pos h126, hvb0, hvb1]; rfl)) (lI1 (by first | with_reducible rfl | (rw [if_pos h126, if_pos h126, hvb0, hvb1]; rfl)) (lI1 (by first | with_reducible rfl | (rw [if_pos h126, if_pos h126, hvb0, hvb1]; rfl)) (lI1 (by first | with_reducible rfl | (rw [if_pos h126, if_pos h126, hvb0, hvb1]; rfl)) (lI1 (by first | with_reducible rfl | (rw [if_pos h126, if_pos h126, hvb0, hvb1]; rfl)) rfl))))))))))) rfl (by rfl)
                exact WP.cg (lp118 ((i / 100 + 2) - (0)) (0) _ _ (decide (isTk i)) (by omega) (by unfold rtC; first | exact (if_pos h41).symm | (rw [if_neg h41, if_pos h50]; done) | (rw [if_neg h41, if_neg h50]; done)) (by unfold dnC; first | exact (if_pos h61).symm | exact (if_neg h61).symm) rfl) (lC1 (lI1 (by first | with_reducible rfl | exact fl_t h88 h105 | exact fl_1 h88 | exact fl_2 h105 | exact rt_0) (lI1 (by first | with_reducible rfl | exact fl_t h88 h105 | exact fl_1 h88 | exact fl_2 h105 | exact rt_0) (lI1 (by first | with_reducible rfl | exact fl_t h88 h105 | exact fl_1 h88 | exact fl_2 h105 | exact rt_0) (lI1 (by first | with_reducible rfl | exact fl_t h88 h105 | exact fl_1 h88 | exact fl_2 h105 | exact rt_0) (lI1 (by first | with_reducible rfl | exact fl_t h88 h105 | exact fl_1 h88 | exact fl_2 h105 | exact rt_0) (lI1 (by first | with_reducible rfl | exact fl_t h88 h105 | exact fl_1 h88 | exact fl_2 h105 | exact rt_0) (lI1 (by first | with_reducible rfl | exact fl_t h88 h105 | exact fl_1 h88 | exact fl_2 h105 | exact rt_0) (lI1 (by first | with_reducible rfl | exact fl_t h88 h105 | exact fl_1 h88 | exact fl_2 h105 | exact rt_0) (lI1 (by first | with_reducible rfl | exact fl_t h88 h105 | exact fl_1 h88 | exact fl_2 h105 | exact rt_0) (lI1 (by first | with_reducible rfl | exact fl_t h88 h105 | exact fl_1 h88 | exact fl_2 h105 | exact rt_0) rfl))))))))))) rfl (by rfl)
              · intro h105
                refine wp_iconst (v := nI 1) (pc' := 109) rfl rfl rfl ?_
                refine wp_goto rfl ?_
                refine wp_istore9 (pc' := 115) rfl (by first | rfl | assumption) rfl ?_
                refine wp_iconst (v := nI 0) (pc' := 116) rfl rfl rfl ?_
                refine wp_istore10 (pc' := 118) rfl (by first | rfl | assumption) rfl ?_
                have lp118 : ∀ rb (k : Nat) (dx dy : Int32) (f : Bool), k + rb = (i / 100 + 2) → dx = rtC (i / 25 % 4) → dy = dnC (i / 25 % 4) → f = decide (isTk i) → WP (d + 1) F_318 118 [.ref 318, .int (nI i), .int (nI (i / 100 + 2)), .int (nI (i / 25 % 4)), .int (nI (i % 25 % 5)), .int (nI (i % 25 / 5)), .int dx, .int dy, .int (if f = true then rtN i k else nI 0), .int (if f = true then nI 1 else nI 0), .int (nI k)] [] (K, upr I 330 (cpy i cellC (I 330)), L, R, n, s) Q := by
                  intro rb; induction rb with
                  | zero =>
                    intro k dx dy f hib hvb0 hvb1 hvb2
                    have hi2b : k = (i / 100 + 2) := by omega
                    subst hi2b
                    refine wp_iload10 (pc' := 120) rfl rfl ?_
                    refine wp_iload2 (pc' := 121) rfl rfl ?_
                    refine wp_icmpgeT rfl (nI_nlt (by omega) (by omega)) ?_
                    refine wp_aload0 (pc' := 162) rfl rfl ?_
                    refine wp_getRF (pc' := 165) rfl rfl (by first | exact TK.k1 hT rfl | exact TK.kk hT rfl | exact TK.r hT rfl | assumption) (by first | exact TK.k1 hT rfl | exact TK.kk hT rfl | exact TK.r hT rfl | assumption) rfl ?_
                    refine wp_iload1 (pc' := 166) rfl rfl ?_
                    refine wp_iload8 (pc' := 168) rfl rfl ?_
                    refine wp_iast _ (pc' := 169) rfl (by first | exact TK.k1 hT rfl | exact TK.kk hT rfl | exact TK.r hT rfl | assumption) (by omega) (by with_reducible rfl) (by omega) (by first | decide | assumption | omega) rfl ?_
                    first | refine wp_iinc1 (w := nI 1) (pc' := 172) rfl rfl rfl (by with_reducible exact nI_add _ _) rfl ?_ | refine wp_iinc1 (w := nI 1) (pc' := 172) rfl rfl rfl rfl rfl ?_
                    refine wp_goto rfl ?_
                    exact WP.cg (ih (i + 1) _ _ _ _ _ _ _ _ _ (by omega) (by first | rfl | assumption) (by first | rfl | assumption) (by first | rfl | assumption) (by first | rfl | assumption) (by first | rfl | assumption) (by first | rfl | assumption) (by first | rfl | assumption) (by first | rfl | assumption) (by first | rfl | assumption)) (lC1 (lI1 (by rfl) (lC1 (lC1 (lC1 (lC1 (lC1 (lC1 (lC1 (lC1 (lC1 rfl))))))))))) rfl (by rw [up2_upr]; first | (rw [rt_fin (by omega) hvb2 (Or.inl rfl)]; exact congrArg (fun r => (K, upr I 330 r, L, R, n, s)) (cpy_up (f := cellC))) | (rw [rt_fin (by omega) hvb2 (Or.inr (Bool.eq_false_iff.mpr h126))]; exact congrArg (fun r => (K, upr I 330 r, L, R, n, s)) (cpy_up (f := cellC))))
                  | succ rb ihb =>
                    intro k dx dy f hib hvb0 hvb1 hvb2
                    have hltb : k < (i / 100 + 2) := by omega
                    refine wp_iload10 (pc' := 120) rfl rfl ?_
                    refine wp_iload2 (pc' := 121) rfl rfl ?_
                    refine wp_icmpgeF (pc' := 124) rfl (nI_lt (by omega) (by omega)) rfl ?_
                    refine wp_iload9 (pc' := 126) rfl rfl ?_
                    first | refine wp_ifeqB (pc' := 129) rfl rfl ?_ ?_ | refine wp_ifeq (pc' := 129) rfl rfl ?_ ?_
                    · intro h126
                      refine wp_aload0 (pc' := 162) rfl rfl ?_
                      refine wp_getRF (pc' := 165) rfl rfl (by first | exact TK.k1 hT rfl | exact TK.kk hT rfl | exact TK.r hT rfl | assumption) (by first | exact TK.k1 hT rfl | exact TK.kk hT rfl | exact TK.r hT rfl | assumption) rfl ?_
                      refine wp_iload1 (pc' := 166) rfl rfl ?_
                      refine wp_iload8 (pc' := 168) rfl rfl ?_
                      refine wp_iast _ (pc' := 169) rfl (by first | exact TK.k1 hT rfl | exact TK.kk hT rfl | exact TK.r hT rfl | assumption) (by omega) (by with_reducible rfl) (by omega) (by first | decide | assumption | omega) rfl ?_
                      first | refine wp_iinc1 (w := nI 1) (pc' := 172) rfl rfl rfl (by with_reducible exact nI_add _ _) rfl ?_ | refine wp_iinc1 (w := nI 1) (pc' := 172) rfl rfl rfl rfl rfl ?_
                      refine wp_goto rfl ?_
                      exact WP.cg (ih (i + 1) _ _ _ _ _ _ _ _ _ (by omega) (by first | rfl | assumption) (by first | rfl | assumption) (by first | rfl | assumption) (by first | rfl | assumption) (by first | rfl | assumption) (by first | rfl | assumption) (by first | rfl | assumption) (by first | rfl | assumption) (by first | rfl | assumption)) (lC1 (lI1 (by rfl) (lC1 (lC1 (lC1 (lC1 (lC1 (lC1 (lC1 (lC1 (lC1 rfl))))))))))) rfl (by rw [up2_upr]; first | (rw [rt_fin (by omega) hvb2 (Or.inl rfl)]; exact congrArg (fun r => (K, upr I 330 r, L, R, n, s)) (cpy_up (f := cellC))) | (rw [rt_fin (by omega) hvb2 (Or.inr (Bool.eq_false_iff.mpr h126))]; exact congrArg (fun r => (K, upr I 330 r, L, R, n, s)) (cpy_up (f := cellC))))
                    · intro h126
                      refine wp_iload8 (pc' := 131) rfl rfl ?_
                      refine wp_iconst (v := nI 1) (pc' := 132) rfl rfl rfl ?_
                      refine wp_iconst (v := nI 5) (pc' := 133) rfl rfl rfl ?_
                      refine wp_iload5 (pc' := 135) rfl rfl ?_
                      refine wp_iload7 (pc' := 137) rfl rfl ?_
                      refine wp_iload10 (pc' := 139) rfl rfl ?_
                      first | refine wp_imulN (pc' := 140) rfl (by with_reducible rfl) (by with_reducible rfl) rfl ?_ | refine wp_imul (pc' := 140) rfl rfl ?_
                      first | refine wp_iaddN (pc' := 141) rfl (by with_reducible rfl) (by with_reducible rfl) rfl ?_ | refine wp_iadd (pc' := 141) rfl rfl ?_
                      first | refine wp_imulN (pc' := 142) rfl (by with_reducible rfl) (by with_reducible rfl) rfl ?_ | refine wp_imul (pc' := 142) rfl rfl ?_
                      refine wp_iload4 (pc' := 144) rfl rfl ?_
                      first | refine wp_iaddN (pc' := 145) rfl (by with_reducible rfl) (by with_reducible rfl) rfl ?_ | refine wp_iadd (pc' := 145) rfl rfl ?_
                      refine wp_iload6 (pc' := 147) rfl rfl ?_
                      refine wp_iload10 (pc' := 149) rfl rfl ?_
                      first | refine wp_imulN (pc' := 150) rfl (by with_reducible rfl) (by with_reducible rfl) rfl ?_ | refine wp_imul (pc' := 150) rfl rfl ?_
                      first | refine wp_iaddN (pc' := 151) rfl (by with_reducible rfl) (by with_reducible rfl) rfl ?_ | refine wp_iadd (pc' := 151) rfl rfl ?_
                      refine wp_ishl (pc' := 152) rfl rfl ?_
                      refine wp_ior (pc' := 153) rfl rfl ?_
                      refine wp_istore8 (pc' := 155) rfl (by first | rfl | assumption) rfl ?_
                      first | refine wp_iinc10 (w := nI 1) (pc' := 158) rfl rfl rfl (by with_reducible exact nI_add _ _) rfl ?_ | refine wp_iinc10 (w := nI 1) (pc' := 158) rfl rfl rfl rfl rfl ?_
                      refine wp_goto rfl ?_
                      exact WP.cg (ihb (k + 1) dx dy f (by omega) hvb0 hvb1 hvb2) (lC1 (lI1 (by first | with_reducible rfl | (rw [if_pos h126, if_pos h126, hvb0, hvb1]; rfl)) (lI1 (by first | with_reducible rfl | (rw [if_pos h126, if_pos h126, hvb0, hvb1]; rfl)) (lI1 (by first | with_reducible rfl | (rw [if_pos h126, if_pos h126, hvb0, hvb1]; rfl)) (lI1 (by first | with_reducible rfl | (rw [if_pos h126, if_pos h126, hvb0, hvb1]; rfl)) (lI1 (by first | with_reducible rfl | (rw [if_pos h126, if_pos h126, hvb0, hvb1]; rfl)) (lI1 (by first | with_reducible rfl | (rw [if_pos h126, if_pos h126, hvb0, hvb1]; rfl)) (lI1 (by first | with_reducible rfl | (rw [if_pos h126, if_pos h126, hvb0, hvb1]; rfl)) (lI1 (by first | with_reducible rfl | (rw [if_pos h126, if_pos h126, hvb0, hvb1]; rfl)) (lI1 (by first | with_reducible rfl | (rw [if_pos h126, if_pos h126, hvb0, hvb1]; rfl)) (lI1 (by first | with_reducible rfl | (rw [if_pos h126, if_pos h126, hvb0, hvb1]; rfl)) rfl))))))))))) rfl (by rfl)
                exact WP.cg (lp118 ((i / 100 + 2) - (0)) (0) _ _ (decide (isTk i)) (by omega) (by unfold rtC; first | exact (if_pos h41).symm | (rw [if_neg h41, if_pos h50]; done) | (rw [if_neg h41, if_neg h50]; done)) (by unfold dnC; first | exact (if_pos h61).symm | exact (if_neg h61).symm) rfl) (lC1 (lI1 (by first | with_reducible rfl | exact fl_t h88 h105 | exact fl_1 h88 | exact fl_2 h105 | exact rt_0) (lI1 (by first | with_reducible rfl | exact fl_t h88 h105 | exact fl_1 h88 | exact fl_2 h105 | exact rt_0) (lI1 (by first | with_reducible rfl | exact fl_t h88 h105 | exact fl_1 h88 | exact fl_2 h105 | exact rt_0) (lI1 (by first | with_reducible rfl | exact fl_t h88 h105 | exact fl_1 h88 | exact fl_2 h105 | exact rt_0) (lI1 (by first | with_reducible rfl | exact fl_t h88 h105 | exact fl_1 h88 | exact fl_2 h105 | exact rt_0) (lI1 (by first | with_reducible rfl | exact fl_t h88 h105 | exact fl_1 h88 | exact fl_2 h105 | exact rt_0) (lI1 (by first | with_reducible rfl | exact fl_t h88 h105 | exact fl_1 h88 | exact fl_2 h105 | exact rt_0) (lI1 (by first | with_reducible rfl | exact fl_t h88 h105 | exact fl_1 h88 | exact fl_2 h105 | exact rt_0) (lI1 (by first | with_reducible rfl | exact fl_t h88 h105 | exact fl_1 h88 | exact fl_2 h105 | exact rt_0) (lI1 (by first | with_reducible rfl | exact fl_t h88 h105 | exact fl_1 h88 | exact fl_2 h105 | exact rt_0) rfl))))))))))) rfl (by rfl)
          · intro h61
            refine wp_iconst (v := nI 0) (pc' := 65) rfl rfl rfl ?_
            refine wp_goto rfl ?_
            refine wp_istore7 (pc' := 71) rfl (by first | rfl | assumption) rfl ?_
            refine wp_iconst (v := nI 0) (pc' := 72) rfl rfl rfl ?_
            refine wp_istore8 (pc' := 74) rfl (by first | rfl | assumption) rfl ?_
            refine wp_iload4 (pc' := 76) rfl rfl ?_
            refine wp_iload6 (pc' := 78) rfl rfl ?_
            refine wp_iload2 (pc' := 79) rfl rfl ?_
            refine wp_iconst (v := nI 1) (pc' := 80) rfl rfl rfl ?_
            first | refine wp_isubN (pc' := 81) rfl (by with_reducible rfl) (by with_reducible rfl) (by omega) rfl ?_ | refine wp_isub (pc' := 81) rfl rfl ?_
            first | refine wp_imulN (pc' := 82) rfl (by with_reducible rfl) (by with_reducible rfl) rfl ?_ | refine wp_imul (pc' := 82) rfl rfl ?_
            first | refine wp_iaddN (pc' := 83) rfl (by with_reducible rfl) (by with_reducible rfl) rfl ?_ | refine wp_iadd (pc' := 83) rfl rfl ?_
            refine wp_iconst (v := nI 0) (pc' := 84) rfl rfl rfl ?_
            refine wp_iconst (v := nI 4) (pc' := 85) rfl rfl rfl ?_
            refine wp_callS3 (pc' := 88) rfl rfl rfl rfl rfl rfl ?_
            refine m_in ?_
            first | rw [show nI (i % 25 % 5 + 1 * (i / 100 + 2 - 1)) = lxC i from by unfold lxC rtC; rw [if_neg h41, if_neg h50, nI_mul, nI_add]] | rw [show nI (i % 25 % 5 + 0 * (i / 100 + 2 - 1)) = lxC i from by unfold lxC rtC; rw [if_pos h41, nI_mul, nI_add]] | rw [show nI (i % 25 % 5) + (-1) * nI (i / 100 + 2 - 1) = lxC i from by unfold lxC rtC; rw [if_neg h41, if_pos h50]]
            refine Cont.v ?_
            first | refine wp_ifeqB (pc' := 91) rfl rfl ?_ ?_ | refine wp_ifeq (pc' := 91) rfl rfl ?_ ?_
            · intro h88
              refine wp_iconst (v := nI 0) (pc' := 113) rfl rfl rfl ?_
              refine wp_istore9 (pc' := 115) rfl (by first | rfl | assumption) rfl ?_
              refine wp_iconst (v := nI 0) (pc' := 116) rfl rfl rfl ?_
              refine wp_istore10 (pc' := 118) rfl (by first | rfl | assumption) rfl ?_
              have lp118 : ∀ rb (k : Nat) (dx dy : Int32) (f : Bool), k + rb = (i / 100 + 2) → dx = rtC (i / 25 % 4) → dy = dnC (i / 25 % 4) → f = decide (isTk i) → WP (d + 1) F_318 118 [.ref 318, .int (nI i), .int (nI (i / 100 + 2)), .int (nI (i / 25 % 4)), .int (nI (i % 25 % 5)), .int (nI (i % 25 / 5)), .int dx, .int dy, .int (if f = true then rtN i k else nI 0), .int (if f = true then nI 1 else nI 0), .int (nI k)] [] (K, upr I 330 (cpy i cellC (I 330)), L, R, n, s) Q := by
                intro rb; induction rb with
                | zero =>
                  intro k dx dy f hib hvb0 hvb1 hvb2
                  have hi2b : k = (i / 100 + 2) := by omega
                  subst hi2b
                  refine wp_iload10 (pc' := 120) rfl rfl ?_
                  refine wp_iload2 (pc' := 121) rfl rfl ?_
                  refine wp_icmpgeT rfl (nI_nlt (by omega) (by omega)) ?_
                  refine wp_aload0 (pc' := 162) rfl rfl ?_
                  refine wp_getRF (pc' := 165) rfl rfl (by first | exact TK.k1 hT rfl | exact TK.kk hT rfl | exact TK.r hT rfl | assumption) (by first | exact TK.k1 hT rfl | exact TK.kk hT rfl | exact TK.r hT rfl | assumption) rfl ?_
                  refine wp_iload1 (pc' := 166) rfl rfl ?_
                  refine wp_iload8 (pc' := 168) rfl rfl ?_
                  refine wp_iast _ (pc' := 169) rfl (by first | exact TK.k1 hT rfl | exact TK.kk hT rfl | exact TK.r hT rfl | assumption) (by omega) (by with_reducible rfl) (by omega) (by first | decide | assumption | omega) rfl ?_
                  first | refine wp_iinc1 (w := nI 1) (pc' := 172) rfl rfl rfl (by with_reducible exact nI_add _ _) rfl ?_ | refine wp_iinc1 (w := nI 1) (pc' := 172) rfl rfl rfl rfl rfl ?_
                  refine wp_goto rfl ?_
                  exact WP.cg (ih (i + 1) _ _ _ _ _ _ _ _ _ (by omega) (by first | rfl | assumption) (by first | rfl | assumption) (by first | rfl | assumption) (by first | rfl | assumption) (by first | rfl | assumption) (by first | rfl | assumption) (by first | rfl | assumption) (by first | rfl | assumption) (by first | rfl | assumption)) (lC1 (lI1 (by rfl) (lC1 (lC1 (lC1 (lC1 (lC1 (lC1 (lC1 (lC1 (lC1 rfl))))))))))) rfl (by rw [up2_upr]; first | (rw [rt_fin (by omega) hvb2 (Or.inl rfl)]; exact congrArg (fun r => (K, upr I 330 r, L, R, n, s)) (cpy_up (f := cellC))) | (rw [rt_fin (by omega) hvb2 (Or.inr (Bool.eq_false_iff.mpr h126))]; exact congrArg (fun r => (K, upr I 330 r, L, R, n, s)) (cpy_up (f := cellC))))
                | succ rb ihb =>
                  intro k dx dy f hib hvb0 hvb1 hvb2
                  have hltb : k < (i / 100 + 2) := by omega
                  refine wp_iload10 (pc' := 120) rfl rfl ?_
                  refine wp_iload2 (pc' := 121) rfl rfl ?_
                  refine wp_icmpgeF (pc' := 124) rfl (nI_lt (by omega) (by omega)) rfl ?_
                  refine wp_iload9 (pc' := 126) rfl rfl ?_
                  first | refine wp_ifeqB (pc' := 129) rfl rfl ?_ ?_ | refine wp_ifeq (pc' := 129) rfl rfl ?_ ?_
                  · intro h126
                    refine wp_aload0 (pc' := 162) rfl rfl ?_
                    refine wp_getRF (pc' := 165) rfl rfl (by first | exact TK.k1 hT rfl | exact TK.kk hT rfl | exact TK.r hT rfl | assumption) (by first | exact TK.k1 hT rfl | exact TK.kk hT rfl | exact TK.r hT rfl | assumption) rfl ?_
                    refine wp_iload1 (pc' := 166) rfl rfl ?_
                    refine wp_iload8 (pc' := 168) rfl rfl ?_
                    refine wp_iast _ (pc' := 169) rfl (by first | exact TK.k1 hT rfl | exact TK.kk hT rfl | exact TK.r hT rfl | assumption) (by omega) (by with_reducible rfl) (by omega) (by first | decide | assumption | omega) rfl ?_
                    first | refine wp_iinc1 (w := nI 1) (pc' := 172) rfl rfl rfl (by with_reducible exact nI_add _ _) rfl ?_ | refine wp_iinc1 (w := nI 1) (pc' := 172) rfl rfl rfl rfl rfl ?_
                    refine wp_goto rfl ?_
                    exact WP.cg (ih (i + 1) _ _ _ _ _ _ _ _ _ (by omega) (by first | rfl | assumption) (by first | rfl | assumption) (by first | rfl | assumption) (by first | rfl | assumption) (by first | rfl | assumption) (by first | rfl | assumption) (by first | rfl | assumption) (by first | rfl | assumption) (by first | rfl | assumption)) (lC1 (lI1 (by rfl) (lC1 (lC1 (lC1 (lC1 (lC1 (lC1 (lC1 (lC1 (lC1 rfl))))))))))) rfl (by rw [up2_upr]; first | (rw [rt_fin (by omega) hvb2 (Or.inl rfl)]; exact congrArg (fun r => (K, upr I 330 r, L, R, n, s)) (cpy_up (f := cellC))) | (rw [rt_fin (by omega) hvb2 (Or.inr (Bool.eq_false_iff.mpr h126))]; exact congrArg (fun r => (K, upr I 330 r, L, R, n, s)) (cpy_up (f := cellC))))
                  · intro h126
                    refine wp_iload8 (pc' := 131) rfl rfl ?_
                    refine wp_iconst (v := nI 1) (pc' := 132) rfl rfl rfl ?_
                    refine wp_iconst (v := nI 5) (pc' := 133) rfl rfl rfl ?_
                    refine wp_iload5 (pc' := 135) rfl rfl ?_
                    refine wp_iload7 (pc' := 137) rfl rfl ?_
                    refine wp_iload10 (pc' := 139) rfl rfl ?_
                    first | refine wp_imulN (pc' := 140) rfl (by with_reducible rfl) (by with_reducible rfl) rfl ?_ | refine wp_imul (pc' := 140) rfl rfl ?_
                    first | refine wp_iaddN (pc' := 141) rfl (by with_reducible rfl) (by with_reducible rfl) rfl ?_ | refine wp_iadd (pc' := 141) rfl rfl ?_
                    first | refine wp_imulN (pc' := 142) rfl (by with_reducible rfl) (by with_reducible rfl) rfl ?_ | refine wp_imul (pc' := 142) rfl rfl ?_
                    refine wp_iload4 (pc' := 144) rfl rfl ?_
                    first | refine wp_iaddN (pc' := 145) rfl (by with_reducible rfl) (by with_reducible rfl) rfl ?_ | refine wp_iadd (pc' := 145) rfl rfl ?_
                    refine wp_iload6 (pc' := 147) rfl rfl ?_
                    refine wp_iload10 (pc' := 149) rfl rfl ?_
                    first | refine wp_imulN (pc' := 150) rfl (by with_reducible rfl) (by with_reducible rfl) rfl ?_ | refine wp_imul (pc' := 150) rfl rfl ?_
                    first | refine wp_iaddN (pc' := 151) rfl (by with_reducible rfl) (by with_reducible rfl) rfl ?_ | refine wp_iadd (pc' := 151) rfl rfl ?_
                    refine wp_ishl (pc' := 152) rfl rfl ?_
                    refine wp_ior (pc' := 153) rfl rfl ?_
                    refine wp_istore8 (pc' := 155) rfl (by first | rfl | assumption) rfl ?_
                    first | refine wp_iinc10 (w := nI 1) (pc' := 158) rfl rfl rfl (by with_reducible exact nI_add _ _) rfl ?_ | refine wp_iinc10 (w := nI 1) (pc' := 158) rfl rfl rfl rfl rfl ?_
                    refine wp_goto rfl ?_
                    exact WP.cg (ihb (k + 1) dx dy f (by omega) hvb0 hvb1 hvb2) (lC1 (lI1 (by first | with_reducible rfl | (rw [if_pos h126, if_pos h126, hvb0, hvb1]; rfl)) (lI1 (by first | with_reducible rfl | (rw [if_pos h126, if_pos h126, hvb0, hvb1]; rfl)) (lI1 (by first | with_reducible rfl | (rw [if_pos h126, if_pos h126, hvb0, hvb1]; rfl)) (lI1 (by first | with_reducible rfl | (rw [if_pos h126, if_pos h126, hvb0, hvb1]; rfl)) (lI1 (by first | with_reducible rfl | (rw [if_pos h126, if_pos h126, hvb0, hvb1]; rfl)) (lI1 (by first | with_reducible rfl | (rw [if_pos h126, if_pos h126, hvb0, hvb1]; rfl)) (lI1 (by first | with_reducible rfl | (rw [if_pos h126, if_pos h126, hvb0, hvb1]; rfl)) (lI1 (by first | with_reducible rfl | (rw [if_pos h126, if_pos h126, hvb0, hvb1]; rfl)) (lI1 (by first | with_reducible rfl | (rw [if_pos h126, if_pos h126, hvb0, hvb1]; rfl)) (lI1 (by first | with_reducible rfl | (rw [if_pos h126, if_pos h126, hvb0, hvb1]; rfl)) rfl))))))))))) rfl (by rfl)
              exact WP.cg (lp118 ((i / 100 + 2) - (0)) (0) _ _ (decide (isTk i)) (by omega) (by unfold rtC; first | exact (if_pos h41).symm | (rw [if_neg h41, if_pos h50]; done) | (rw [if_neg h41, if_neg h50]; done)) (by unfold dnC; first | exact (if_pos h61).symm | exact (if_neg h61).symm) rfl) (lC1 (lI1 (by first | with_reducible rfl | exact fl_t h88 h105 | exact fl_1 h88 | exact fl_2 h105 | exact rt_0) (lI1 (by first | with_reducible rfl | exact fl_t h88 h105 | exact fl_1 h88 | exact fl_2 h105 | exact rt_0) (lI1 (by first | with_reducible rfl | exact fl_t h88 h105 | exact fl_1 h88 | exact fl_2 h105 | exact rt_0) (lI1 (by first | with_reducible rfl | exact fl_t h88 h105 | exact fl_1 h88 | exact fl_2 h105 | exact rt_0) (lI1 (by first | with_reducible rfl | exact fl_t h88 h105 | exact fl_1 h88 | exact fl_2 h105 | exact rt_0) (lI1 (by first | with_reducible rfl | exact fl_t h88 h105 | exact fl_1 h88 | exact fl_2 h105 | exact rt_0) (lI1 (by first | with_reducible rfl | exact fl_t h88 h105 | exact fl_1 h88 | exact fl_2 h105 | exact rt_0) (lI1 (by first | with_reducible rfl | exact fl_t h88 h105 | exact fl_1 h88 | exact fl_2 h105 | exact rt_0) (lI1 (by first | with_reducible rfl | exact fl_t h88 h105 | exact fl_1 h88 | exact fl_2 h105 | exact rt_0) (lI1 (by first | with_reducible rfl | exact fl_t h88 h105 | exact fl_1 h88 | exact fl_2 h105 | exact rt_0) rfl))))))))))) rfl (by rfl)
            · intro h88
              refine wp_iload5 (pc' := 93) rfl rfl ?_
              refine wp_iload7 (pc' := 95) rfl rfl ?_
              refine wp_iload2 (pc' := 96) rfl rfl ?_
              refine wp_iconst (v := nI 1) (pc' := 97) rfl rfl rfl ?_
              first | refine wp_isubN (pc' := 98) rfl (by with_reducible rfl) (by with_reducible rfl) (by omega) rfl ?_ | refine wp_isub (pc' := 98) rfl rfl ?_
              first | refine wp_imulN (pc' := 99) rfl (by with_reducible rfl) (by with_reducible rfl) rfl ?_ | refine wp_imul (pc' := 99) rfl rfl ?_
              first | refine wp_iaddN (pc' := 100) rfl (by with_reducible rfl) (by with_reducible rfl) rfl ?_ | refine wp_iadd (pc' := 100) rfl rfl ?_
              refine wp_iconst (v := nI 0) (pc' := 101) rfl rfl rfl ?_
              refine wp_iconst (v := nI 4) (pc' := 102) rfl rfl rfl ?_
              refine wp_callS3 (pc' := 105) rfl rfl rfl rfl rfl rfl ?_
              refine m_in ?_
              first | rw [show nI (i % 25 / 5 + 1 * (i / 100 + 2 - 1)) = lyC i from by unfold lyC dnC; rw [if_neg h61, nI_mul, nI_add]] | rw [show nI (i % 25 / 5 + 0 * (i / 100 + 2 - 1)) = lyC i from by unfold lyC dnC; rw [if_pos h61, nI_mul, nI_add]]
              refine Cont.v ?_
              first | refine wp_ifeqB (pc' := 108) rfl rfl ?_ ?_ | refine wp_ifeq (pc' := 108) rfl rfl ?_ ?_
              · intro h105
                refine wp_iconst (v := nI 0) (pc' := 113) rfl rfl rfl ?_
                refine wp_istore9 (pc' := 115) rfl (by first | rfl | assumption) rfl ?_
                refine wp_iconst (v := nI 0) (pc' := 116) rfl rfl rfl ?_
                refine wp_istore10 (pc' := 118) rfl (by first | rfl | assumption) rfl ?_
                have lp118 : ∀ rb (k : Nat) (dx dy : Int32) (f : Bool), k + rb = (i / 100 + 2) → dx = rtC (i / 25 % 4) → dy = dnC (i / 25 % 4) → f = decide (isTk i) → WP (d + 1) F_318 118 [.ref 318, .int (nI i), .int (nI (i / 100 + 2)), .int (nI (i / 25 % 4)), .int (nI (i % 25 % 5)), .int (nI (i % 25 / 5)), .int dx, .int dy, .int (if f = true then rtN i k else nI 0), .int (if f = true then nI 1 else nI 0), .int (nI k)] [] (K, upr I 330 (cpy i cellC (I 330)), L, R, n, s) Q := by
                  intro rb; induction rb with
                  | zero =>
                    intro k dx dy f hib hvb0 hvb1 hvb2
                    have hi2b : k = (i / 100 + 2) := by omega
                    subst hi2b
                    refine wp_iload10 (pc' := 120) rfl rfl ?_
                    refine wp_iload2 (pc' := 121) rfl rfl ?_
                    refine wp_icmpgeT rfl (nI_nlt (by omega) (by omega)) ?_
                    refine wp_aload0 (pc' := 162) rfl rfl ?_
                    refine wp_getRF (pc' := 165) rfl rfl (by first | exact TK.k1 hT rfl | exact TK.kk hT rfl | exact TK.r hT rfl | assumption) (by first | exact TK.k1 hT rfl | exact TK.kk hT rfl | exact TK.r hT rfl | assumption) rfl ?_
                    refine wp_iload1 (pc' := 166) rfl rfl ?_
                    refine wp_iload8 (pc' := 168) rfl rfl ?_
                    refine wp_iast _ (pc' := 169) rfl (by first | exact TK.k1 hT rfl | exact TK.kk hT rfl | exact TK.r hT rfl | assumption) (by omega) (by with_reducible rfl) (by omega) (by first | decide | assumption | omega) rfl ?_
                    first | refine wp_iinc1 (w := nI 1) (pc' := 172) rfl rfl rfl (by with_reducible exact nI_add _ _) rfl ?_ | refine wp_iinc1 (w := nI 1) (pc' := 172) rfl rfl rfl rfl rfl ?_
                    refine wp_goto rfl ?_
                    exact WP.cg (ih (i + 1) _ _ _ _ _ _ _ _ _ (by omega) (by first | rfl | assumption) (by first | rfl | assumption) (by first | rfl | assumption) (by first | rfl | assumption) (by first | rfl | assumption) (by first | rfl | assumption) (by first | rfl | assumption) (by first | rfl | assumption) (by first | rfl | assumption)) (lC1 (lI1 (by rfl) (lC1 (lC1 (lC1 (lC1 (lC1 (lC1 (lC1 (lC1 (lC1 rfl))))))))))) rfl (by rw [up2_upr]; first | (rw [rt_fin (by omega) hvb2 (Or.inl rfl)]; exact congrArg (fun r => (K, upr I 330 r, L, R, n, s)) (cpy_up (f := cellC))) | (rw [rt_fin (by omega) hvb2 (Or.inr (Bool.eq_false_iff.mpr h126))]; exact congrArg (fun r => (K, upr I 330 r, L, R, n, s)) (cpy_up (f := cellC))))
                  | succ rb ihb =>
                    intro k dx dy f hib hvb0 hvb1 hvb2
                    have hltb : k < (i / 100 + 2) := by omega
                    refine wp_iload10 (pc' := 120) rfl rfl ?_
                    refine wp_iload2 (pc' := 121) rfl rfl ?_
                    refine wp_icmpgeF (pc' := 124) rfl (nI_lt (by omega) (by omega)) rfl ?_
                    refine wp_iload9 (pc' := 126) rfl rfl ?_
                    first | refine wp_ifeqB (pc' := 129) rfl rfl ?_ ?_ | refine wp_ifeq (pc' := 129) rfl rfl ?_ ?_
                    · intro h126
                      refine wp_aload0 (pc' := 162) rfl rfl ?_
                      refine wp_getRF (pc' := 165) rfl rfl (by first | exact TK.k1 hT rfl | exact TK.kk hT rfl | exact TK.r hT rfl | assumption) (by first | exact TK.k1 hT rfl | exact TK.kk hT rfl | exact TK.r hT rfl | assumption) rfl ?_
                      refine wp_iload1 (pc' := 166) rfl rfl ?_
                      refine wp_iload8 (pc' := 168) rfl rfl ?_
                      refine wp_iast _ (pc' := 169) rfl (by first | exact TK.k1 hT rfl | exact TK.kk hT rfl | exact TK.r hT rfl | assumption) (by omega) (by with_reducible rfl) (by omega) (by first | decide | assumption | omega) rfl ?_
                      first | refine wp_iinc1 (w := nI 1) (pc' := 172) rfl rfl rfl (by with_reducible exact nI_add _ _) rfl ?_ | refine wp_iinc1 (w := nI 1) (pc' := 172) rfl rfl rfl rfl rfl ?_
                      refine wp_goto rfl ?_
                      exact WP.cg (ih (i + 1) _ _ _ _ _ _ _ _ _ (by omega) (by first | rfl | assumption) (by first | rfl | assumption) (by first | rfl | assumption) (by first | rfl | assumption) (by first | rfl | assumption) (by first | rfl | assumption) (by first | rfl | assumption) (by first | rfl | assumption) (by first | rfl | assumption)) (lC1 (lI1 (by rfl) (lC1 (lC1 (lC1 (lC1 (lC1 (lC1 (lC1 (lC1 (lC1 rfl))))))))))) rfl (by rw [up2_upr]; first | (rw [rt_fin (by omega) hvb2 (Or.inl rfl)]; exact congrArg (fun r => (K, upr I 330 r, L, R, n, s)) (cpy_up (f := cellC))) | (rw [rt_fin (by omega) hvb2 (Or.inr (Bool.eq_false_iff.mpr h126))]; exact congrArg (fun r => (K, upr I 330 r, L, R, n, s)) (cpy_up (f := cellC))))
                    · intro h126
                      refine wp_iload8 (pc' := 131) rfl rfl ?_
                      refine wp_iconst (v := nI 1) (pc' := 132) rfl rfl rfl ?_
                      refine wp_iconst (v := nI 5) (pc' := 133) rfl rfl rfl ?_
                      refine wp_iload5 (pc' := 135) rfl rfl ?_
                      refine wp_iload7 (pc' := 137) rfl rfl ?_
                      refine wp_iload10 (pc' := 139) rfl rfl ?_
                      first | refine wp_imulN (pc' := 140) rfl (by with_reducible rfl) (by with_reducible rfl) rfl ?_ | refine wp_imul (pc' := 140) rfl rfl ?_
                      first | refine wp_iaddN (pc' := 141) rfl (by with_reducible rfl) (by with_reducible rfl) rfl ?_ | refine wp_iadd (pc' := 141) rfl rfl ?_
                      first | refine wp_imulN (pc' := 142) rfl (by with_reducible rfl) (by with_reducible rfl) rfl ?_ | refine wp_imul (pc' := 142) rfl rfl ?_
                      refine wp_iload4 (pc' := 144) rfl rfl ?_
                      first | refine wp_iaddN (pc' := 145) rfl (by with_reducible rfl) (by with_reducible rfl) rfl ?_ | refine wp_iadd (pc' := 145) rfl rfl ?_
                      refine wp_iload6 (pc' := 147) rfl rfl ?_
                      refine wp_iload10 (pc' := 149) rfl rfl ?_
                      first | refine wp_imulN (pc' := 150) rfl (by with_reducible rfl) (by with_reducible rfl) rfl ?_ | refine wp_imul (pc' := 150) rfl rfl ?_
                      first | refine wp_iaddN (pc' := 151) rfl (by with_reducible rfl) (by with_reducible rfl) rfl ?_ | refine wp_iadd (pc' := 151) rfl rfl ?_
                      refine wp_ishl (pc' := 152) rfl rfl ?_
                      refine wp_ior (pc' := 153) rfl rfl ?_
                      refine wp_istore8 (pc' := 155) rfl (by first | rfl | assumption) rfl ?_
                      first | refine wp_iinc10 (w := nI 1) (pc' := 158) rfl rfl rfl (by with_reducible exact nI_add _ _) rfl ?_ | refine wp_iinc10 (w := nI 1) (pc' := 158) rfl rfl rfl rfl rfl ?_
                      refine wp_goto rfl ?_
                      exact WP.cg (ihb (k + 1) dx dy f (by omega) hvb0 hvb1 hvb2) (lC1 (lI1 (by first | with_reducible rfl | (rw [if_pos h126, if_pos h126, hvb0, hvb1]; rfl)) (lI1 (by first | with_reducible rfl | (rw [if_pos h126, if_pos h126, hvb0, hvb1]; rfl)) (lI1 (by first | with_reducible rfl | (rw [if_pos h126, if_pos h126, hvb0, hvb1]; rfl)) (lI1 (by first | with_reducible rfl | (rw [if_pos h126, if_pos h126, hvb0, hvb1]; rfl)) (lI1 (by first | with_reducible rfl | (rw [if_pos h126, if_pos h126, hvb0, hvb1]; rfl)) (lI1 (by first | with_reducible rfl | (rw [if_pos h126, if_pos h126, hvb0, hvb1]; rfl)) (lI1 (by first | with_reducible rfl | (rw [if_pos h126, if_pos h126, hvb0, hvb1]; rfl)) (lI1 (by first | with_reducible rfl | (rw [if_pos h126, if_pos h126, hvb0, hvb1]; rfl)) (lI1 (by first | with_reducible rfl | (rw [if_pos h126, if_pos h126, hvb0, hvb1]; rfl)) (lI1 (by first | with_reducible rfl | (rw [if_pos h126, if_pos h126, hvb0, hvb1]; rfl)) rfl))))))))))) rfl (by rfl)
                exact WP.cg (lp118 ((i / 100 + 2) - (0)) (0) _ _ (decide (isTk i)) (by omega) (by unfold rtC; first | exact (if_pos h41).symm | (rw [if_neg h41, if_pos h50]; done) | (rw [if_neg h41, if_neg h50]; done)) (by unfold dnC; first | exact (if_pos h61).symm | exact (if_neg h61).symm) rfl) (lC1 (lI1 (by first | with_reducible rfl | exact fl_t h88 h105 | exact fl_1 h88 | exact fl_2 h105 | exact rt_0) (lI1 (by first | with_reducible rfl | exact fl_t h88 h105 | exact fl_1 h88 | exact fl_2 h105 | exact rt_0) (lI1 (by first | with_reducible rfl | exact fl_t h88 h105 | exact fl_1 h88 | exact fl_2 h105 | exact rt_0) (lI1 (by first | with_reducible rfl | exact fl_t h88 h105 | exact fl_1 h88 | exact fl_2 h105 | exact rt_0) (lI1 (by first | with_reducible rfl | exact fl_t h88 h105 | exact fl_1 h88 | exact fl_2 h105 | exact rt_0) (lI1 (by first | with_reducible rfl | exact fl_t h88 h105 | exact fl_1 h88 | exact fl_2 h105 | exact rt_0) (lI1 (by first | with_reducible rfl | exact fl_t h88 h105 | exact fl_1 h88 | exact fl_2 h105 | exact rt_0) (lI1 (by first | with_reducible rfl | exact fl_t h88 h105 | exact fl_1 h88 | exact fl_2 h105 | exact rt_0) (lI1 (by first | with_reducible rfl | exact fl_t h88 h105 | exact fl_1 h88 | exact fl_2 h105 | exact rt_0) (lI1 (by first | with_reducible rfl | exact fl_t h88 h105 | exact fl_1 h88 | exact fl_2 h105 | exact rt_0) rfl))))))))))) rfl (by rfl)
              · intro h105
                refine wp_iconst (v := nI 1) (pc' := 109) rfl rfl rfl ?_
                refine wp_goto rfl ?_
                refine wp_istore9 (pc' := 115) rfl (by first | rfl | assumption) rfl ?_
                refine wp_iconst (v := nI 0) (pc' := 116) rfl rfl rfl ?_
                refine wp_istore10 (pc' := 118) rfl (by first | rfl | assumption) rfl ?_
                have lp118 : ∀ rb (k : Nat) (dx dy : Int32) (f : Bool), k + rb = (i / 100 + 2) → dx = rtC (i / 25 % 4) → dy = dnC (i / 25 % 4) → f = decide (isTk i) → WP (d + 1) F_318 118 [.ref 318, .int (nI i), .int (nI (i / 100 + 2)), .int (nI (i / 25 % 4)), .int (nI (i % 25 % 5)), .int (nI (i % 25 / 5)), .int dx, .int dy, .int (if f = true then rtN i k else nI 0), .int (if f = true then nI 1 else nI 0), .int (nI k)] [] (K, upr I 330 (cpy i cellC (I 330)), L, R, n, s) Q := by
                  intro rb; induction rb with
                  | zero =>
                    intro k dx dy f hib hvb0 hvb1 hvb2
                    have hi2b : k = (i / 100 + 2) := by omega
                    subst hi2b
                    refine wp_iload10 (pc' := 120) rfl rfl ?_
                    refine wp_iload2 (pc' := 121) rfl rfl ?_
                    refine wp_icmpgeT rfl (nI_nlt (by omega) (by omega)) ?_
                    refine wp_aload0 (pc' := 162) rfl rfl ?_
                    refine wp_getRF (pc' := 165) rfl rfl (by first | exact TK.k1 hT rfl | exact TK.kk hT rfl | exact TK.r hT rfl | assumption) (by first | exact TK.k1 hT rfl | exact TK.kk hT rfl | exact TK.r hT rfl | assumption) rfl ?_
                    refine wp_iload1 (pc' := 166) rfl rfl ?_
                    refine wp_iload8 (pc' := 168) rfl rfl ?_
                    refine wp_iast _ (pc' := 169) rfl (by first | exact TK.k1 hT rfl | exact TK.kk hT rfl | exact TK.r hT rfl | assumption) (by omega) (by with_reducible rfl) (by omega) (by first | decide | assumption | omega) rfl ?_
                    first | refine wp_iinc1 (w := nI 1) (pc' := 172) rfl rfl rfl (by with_reducible exact nI_add _ _) rfl ?_ | refine wp_iinc1 (w := nI 1) (pc' := 172) rfl rfl rfl rfl rfl ?_
                    refine wp_goto rfl ?_
                    exact WP.cg (ih (i + 1) _ _ _ _ _ _ _ _ _ (by omega) (by first | rfl | assumption) (by first | rfl | assumption) (by first | rfl | assumption) (by first | rfl | assumption) (by first | rfl | assumption) (by first | rfl | assumption) (by first | rfl | assumption) (by first | rfl | assumption) (by first | rfl | assumption)) (lC1 (lI1 (by rfl) (lC1 (lC1 (lC1 (lC1 (lC1 (lC1 (lC1 (lC1 (lC1 rfl))))))))))) rfl (by rw [up2_upr]; first | (rw [rt_fin (by omega) hvb2 (Or.inl rfl)]; exact congrArg (fun r => (K, upr I 330 r, L, R, n, s)) (cpy_up (f := cellC))) | (rw [rt_fin (by omega) hvb2 (Or.inr (Bool.eq_false_iff.mpr h126))]; exact congrArg (fun r => (K, upr I 330 r, L, R, n, s)) (cpy_up (f := cellC))))
                  | succ rb ihb =>
                    intro k dx dy f hib hvb0 hvb1 hvb2
                    have hltb : k < (i / 100 + 2) := by omega
                    refine wp_iload10 (pc' := 120) rfl rfl ?_
                    refine wp_iload2 (pc' := 121) rfl rfl ?_
                    refine wp_icmpgeF (pc' := 124) rfl (nI_lt (by omega) (by omega)) rfl ?_
                    refine wp_iload9 (pc' := 126) rfl rfl ?_
                    first | refine wp_ifeqB (pc' := 129) rfl rfl ?_ ?_ | refine wp_ifeq (pc' := 129) rfl rfl ?_ ?_
                    · intro h126
                      refine wp_aload0 (pc' := 162) rfl rfl ?_
                      refine wp_getRF (pc' := 165) rfl rfl (by first | exact TK.k1 hT rfl | exact TK.kk hT rfl | exact TK.r hT rfl | assumption) (by first | exact TK.k1 hT rfl | exact TK.kk hT rfl | exact TK.r hT rfl | assumption) rfl ?_
                      refine wp_iload1 (pc' := 166) rfl rfl ?_
                      refine wp_iload8 (pc' := 168) rfl rfl ?_
                      refine wp_iast _ (pc' := 169) rfl (by first | exact TK.k1 hT rfl | exact TK.kk hT rfl | exact TK.r hT rfl | assumption) (by omega) (by with_reducible rfl) (by omega) (by first | decide | assumption | omega) rfl ?_
                      first | refine wp_iinc1 (w := nI 1) (pc' := 172) rfl rfl rfl (by with_reducible exact nI_add _ _) rfl ?_ | refine wp_iinc1 (w := nI 1) (pc' := 172) rfl rfl rfl rfl rfl ?_
                      refine wp_goto rfl ?_
                      exact WP.cg (ih (i + 1) _ _ _ _ _ _ _ _ _ (by omega) (by first | rfl | assumption) (by first | rfl | assumption) (by first | rfl | assumption) (by first | rfl | assumption) (by first | rfl | assumption) (by first | rfl | assumption) (by first | rfl | assumption) (by first | rfl | assumption) (by first | rfl | assumption)) (lC1 (lI1 (by rfl) (lC1 (lC1 (lC1 (lC1 (lC1 (lC1 (lC1 (lC1 (lC1 rfl))))))))))) rfl (by rw [up2_upr]; first | (rw [rt_fin (by omega) hvb2 (Or.inl rfl)]; exact congrArg (fun r => (K, upr I 330 r, L, R, n, s)) (cpy_up (f := cellC))) | (rw [rt_fin (by omega) hvb2 (Or.inr (Bool.eq_false_iff.mpr h126))]; exact congrArg (fun r => (K, upr I 330 r, L, R, n, s)) (cpy_up (f := cellC))))
                    · intro h126
                      refine wp_iload8 (pc' := 131) rfl rfl ?_
                      refine wp_iconst (v := nI 1) (pc' := 132) rfl rfl rfl ?_
                      refine wp_iconst (v := nI 5) (pc' := 133) rfl rfl rfl ?_
                      refine wp_iload5 (pc' := 135) rfl rfl ?_
                      refine wp_iload7 (pc' := 137) rfl rfl ?_
                      refine wp_iload10 (pc' := 139) rfl rfl ?_
                      first | refine wp_imulN (pc' := 140) rfl (by with_reducible rfl) (by with_reducible rfl) rfl ?_ | refine wp_imul (pc' := 140) rfl rfl ?_
                      first | refine wp_iaddN (pc' := 141) rfl (by with_reducible rfl) (by with_reducible rfl) rfl ?_ | refine wp_iadd (pc' := 141) rfl rfl ?_
                      first | refine wp_imulN (pc' := 142) rfl (by with_reducible rfl) (by with_reducible rfl) rfl ?_ | refine wp_imul (pc' := 142) rfl rfl ?_
                      refine wp_iload4 (pc' := 144) rfl rfl ?_
                      first | refine wp_iaddN (pc' := 145) rfl (by with_reducible rfl) (by with_reducible rfl) rfl ?_ | refine wp_iadd (pc' := 145) rfl rfl ?_
                      refine wp_iload6 (pc' := 147) rfl rfl ?_
                      refine wp_iload10 (pc' := 149) rfl rfl ?_
                      first | refine wp_imulN (pc' := 150) rfl (by with_reducible rfl) (by with_reducible rfl) rfl ?_ | refine wp_imul (pc' := 150) rfl rfl ?_
                      first | refine wp_iaddN (pc' := 151) rfl (by with_reducible rfl) (by with_reducible rfl) rfl ?_ | refine wp_iadd (pc' := 151) rfl rfl ?_
                      refine wp_ishl (pc' := 152) rfl rfl ?_
                      refine wp_ior (pc' := 153) rfl rfl ?_
                      refine wp_istore8 (pc' := 155) rfl (by first | rfl | assumption) rfl ?_
                      first | refine wp_iinc10 (w := nI 1) (pc' := 158) rfl rfl rfl (by with_reducible exact nI_add _ _) rfl ?_ | refine wp_iinc10 (w := nI 1) (pc' := 158) rfl rfl rfl rfl rfl ?_
                      refine wp_goto rfl ?_
                      exact WP.cg (ihb (k + 1) dx dy f (by omega) hvb0 hvb1 hvb2) (lC1 (lI1 (by first | with_reducible rfl | (rw [if_pos h126, if_pos h126, hvb0, hvb1]; rfl)) (lI1 (by first | with_reducible rfl | (rw [if_pos h126, if_pos h126, hvb0, hvb1]; rfl)) (lI1 (by first | with_reducible rfl | (rw [if_pos h126, if_pos h126, hvb0, hvb1]; rfl)) (lI1 (by first | with_reducible rfl | (rw [if_pos h126, if_pos h126, hvb0, hvb1]; rfl)) (lI1 (by first | with_reducible rfl | (rw [if_pos h126, if_pos h126, hvb0, hvb1]; rfl)) (lI1 (by first | with_reducible rfl | (rw [if_pos h126, if_pos h126, hvb0, hvb1]; rfl)) (lI1 (by first | with_reducible rfl | (rw [if_pos h126, if_pos h126, hvb0, hvb1]; rfl)) (lI1 (by first | with_reducible rfl | (rw [if_pos h126, if_pos h126, hvb0, hvb1]; rfl)) (lI1 (by first | with_reducible rfl | (rw [if_pos h126, if_pos h126, hvb0, hvb1]; rfl)) (lI1 (by first | with_reducible rfl | (rw [if_pos h126, if_pos h126, hvb0, hvb1]; rfl)) rfl))))))))))) rfl (by rfl)
                exact WP.cg (lp118 ((i / 100 + 2) - (0)) (0) _ _ (decide (isTk i)) (by omega) (by unfold rtC; first | exact (if_pos h41).symm | (rw [if_neg h41, if_pos h50]; done) | (rw [if_neg h41, if_neg h50]; done)) (by unfold dnC; first | exact (if_pos h61).symm | exact (if_neg h61).symm) rfl) (lC1 (lI1 (by first | with_reducible rfl | exact fl_t h88 h105 | exact fl_1 h88 | exact fl_2 h105 | exact rt_0) (lI1 (by first | with_reducible rfl | exact fl_t h88 h105 | exact fl_1 h88 | exact fl_2 h105 | exact rt_0) (lI1 (by first | with_reducible rfl | exact fl_t h88 h105 | exact fl_1 h88 | exact fl_2 h105 | exact rt_0) (lI1 (by first | with_reducible rfl | exact fl_t h88 h105 | exact fl_1 h88 | exact fl_2 h105 | exact rt_0) (lI1 (by first | with_reducible rfl | exact fl_t h88 h105 | exact fl_1 h88 | exact fl_2 h105 | exact rt_0) (lI1 (by first | with_reducible rfl | exact fl_t h88 h105 | exact fl_1 h88 | exact fl_2 h105 | exact rt_0) (lI1 (by first | with_reducible rfl | exact fl_t h88 h105 | exact fl_1 h88 | exact fl_2 h105 | exact rt_0) (lI1 (by first | with_reducible rfl | exact fl_t h88 h105 | exact fl_1 h88 | exact fl_2 h105 | exact rt_0) (lI1 (by first | with_reducible rfl | exact fl_t h88 h105 | exact fl_1 h88 | exact fl_2 h105 | exact rt_0) (lI1 (by first | with_reducible rfl | exact fl_t h88 h105 | exact fl_1 h88 | exact fl_2 h105 | exact rt_0) rfl))))))))))) rfl (by rfl)
      · intro h41
        refine wp_iconst (v := nI 0) (pc' := 45) rfl rfl rfl ?_
        refine wp_goto rfl ?_
        refine wp_istore6 (pc' := 60) rfl (by first | rfl | assumption) rfl ?_
        refine wp_iload3 (pc' := 61) rfl rfl ?_
        first | refine wp_ifneB (pc' := 64) rfl rfl ?_ ?_ | refine wp_ifne (pc' := 64) rfl rfl ?_ ?_
        · intro h61
          refine wp_iconst (v := nI 1) (pc' := 69) rfl rfl rfl ?_
          refine wp_istore7 (pc' := 71) rfl (by first | rfl | assumption) rfl ?_
          refine wp_iconst (v := nI 0) (pc' := 72) rfl rfl rfl ?_
          refine wp_istore8 (pc' := 74) rfl (by first | rfl | assumption) rfl ?_
          refine wp_iload4 (pc' := 76) rfl rfl ?_
          refine wp_iload6 (pc' := 78) rfl rfl ?_
          refine wp_iload2 (pc' := 79) rfl rfl ?_
          refine wp_iconst (v := nI 1) (pc' := 80) rfl rfl rfl ?_
          first | refine wp_isubN (pc' := 81) rfl (by with_reducible rfl) (by with_reducible rfl) (by omega) rfl ?_ | refine wp_isub (pc' := 81) rfl rfl ?_
          first | refine wp_imulN (pc' := 82) rfl (by with_reducible rfl) (by with_reducible rfl) rfl ?_ | refine wp_imul (pc' := 82) rfl rfl ?_
          first | refine wp_iaddN (pc' := 83) rfl (by with_reducible rfl) (by with_reducible rfl) rfl ?_ | refine wp_iadd (pc' := 83) rfl rfl ?_
          refine wp_iconst (v := nI 0) (pc' := 84) rfl rfl rfl ?_
          refine wp_iconst (v := nI 4) (pc' := 85) rfl rfl rfl ?_
          refine wp_callS3 (pc' := 88) rfl rfl rfl rfl rfl rfl ?_
          refine m_in ?_
          first | rw [show nI (i % 25 % 5 + 1 * (i / 100 + 2 - 1)) = lxC i from by unfold lxC rtC; rw [if_neg h41, if_neg h50, nI_mul, nI_add]] | rw [show nI (i % 25 % 5 + 0 * (i / 100 + 2 - 1)) = lxC i from by unfold lxC rtC; rw [if_pos h41, nI_mul, nI_add]] | rw [show nI (i % 25 % 5) + (-1) * nI (i / 100 + 2 - 1) = lxC i from by unfold lxC rtC; rw [if_neg h41, if_pos h50]]
          refine Cont.v ?_
          first | refine wp_ifeqB (pc' := 91) rfl rfl ?_ ?_ | refine wp_ifeq (pc' := 91) rfl rfl ?_ ?_
          · intro h88
            refine wp_iconst (v := nI 0) (pc' := 113) rfl rfl rfl ?_
            refine wp_istore9 (pc' := 115) rfl (by first | rfl | assumption) rfl ?_
            refine wp_iconst (v := nI 0) (pc' := 116) rfl rfl rfl ?_
            refine wp_istore10 (pc' := 118) rfl (by first | rfl | assumption) rfl ?_
            have lp118 : ∀ rb (k : Nat) (dx dy : Int32) (f : Bool), k + rb = (i / 100 + 2) → dx = rtC (i / 25 % 4) → dy = dnC (i / 25 % 4) → f = decide (isTk i) → WP (d + 1) F_318 118 [.ref 318, .int (nI i), .int (nI (i / 100 + 2)), .int (nI (i / 25 % 4)), .int (nI (i % 25 % 5)), .int (nI (i % 25 / 5)), .int dx, .int dy, .int (if f = true then rtN i k else nI 0), .int (if f = true then nI 1 else nI 0), .int (nI k)] [] (K, upr I 330 (cpy i cellC (I 330)), L, R, n, s) Q := by
              intro rb; induction rb with
              | zero =>
                intro k dx dy f hib hvb0 hvb1 hvb2
                have hi2b : k = (i / 100 + 2) := by omega
                subst hi2b
                refine wp_iload10 (pc' := 120) rfl rfl ?_
                refine wp_iload2 (pc' := 121) rfl rfl ?_
                refine wp_icmpgeT rfl (nI_nlt (by omega) (by omega)) ?_
                refine wp_aload0 (pc' := 162) rfl rfl ?_
                refine wp_getRF (pc' := 165) rfl rfl (by first | exact TK.k1 hT rfl | exact TK.kk hT rfl | exact TK.r hT rfl | assumption) (by first | exact TK.k1 hT rfl | exact TK.kk hT rfl | exact TK.r hT rfl | assumption) rfl ?_
                refine wp_iload1 (pc' := 166) rfl rfl ?_
                refine wp_iload8 (pc' := 168) rfl rfl ?_
                refine wp_iast _ (pc' := 169) rfl (by first | exact TK.k1 hT rfl | exact TK.kk hT rfl | exact TK.r hT rfl | assumption) (by omega) (by with_reducible rfl) (by omega) (by first | decide | assumption | omega) rfl ?_
                first | refine wp_iinc1 (w := nI 1) (pc' := 172) rfl rfl rfl (by with_reducible exact nI_add _ _) rfl ?_ | refine wp_iinc1 (w := nI 1) (pc' := 172) rfl rfl rfl rfl rfl ?_
                refine wp_goto rfl ?_
                exact WP.cg (ih (i + 1) _ _ _ _ _ _ _ _ _ (by omega) (by first | rfl | assumption) (by first | rfl | assumption) (by first | rfl | assumption) (by first | rfl | assumption) (by first | rfl | assumption) (by first | rfl | assumption) (by first | rfl | assumption) (by first | rfl | assumption) (by first | rfl | assumption)) (lC1 (lI1 (by rfl) (lC1 (lC1 (lC1 (lC1 (lC1 (lC1 (lC1 (lC1 (lC1 rfl))))))))))) rfl (by rw [up2_upr]; first | (rw [rt_fin (by omega) hvb2 (Or.inl rfl)]; exact congrArg (fun r => (K, upr I 330 r, L, R, n, s)) (cpy_up (f := cellC))) | (rw [rt_fin (by omega) hvb2 (Or.inr (Bool.eq_false_iff.mpr h126))]; exact congrArg (fun r => (K, upr I 330 r, L, R, n, s)) (cpy_up (f := cellC))))
              | succ rb ihb =>
                intro k dx dy f hib hvb0 hvb1 hvb2
                have hltb : k < (i / 100 + 2) := by omega
                refine wp_iload10 (pc' := 120) rfl rfl ?_
                refine wp_iload2 (pc' := 121) rfl rfl ?_
                refine wp_icmpgeF (pc' := 124) rfl (nI_lt (by omega) (by omega)) rfl ?_
                refine wp_iload9 (pc' := 126) rfl rfl ?_
                first | refine wp_ifeqB (pc' := 129) rfl rfl ?_ ?_ | refine wp_ifeq (pc' := 129) rfl rfl ?_ ?_
                · intro h126
                  refine wp_aload0 (pc' := 162) rfl rfl ?_
                  refine wp_getRF (pc' := 165) rfl rfl (by first | exact TK.k1 hT rfl | exact TK.kk hT rfl | exact TK.r hT rfl | assumption) (by first | exact TK.k1 hT rfl | exact TK.kk hT rfl | exact TK.r hT rfl | assumption) rfl ?_
                  refine wp_iload1 (pc' := 166) rfl rfl ?_
                  refine wp_iload8 (pc' := 168) rfl rfl ?_
                  refine wp_iast _ (pc' := 169) rfl (by first | exact TK.k1 hT rfl | exact TK.kk hT rfl | exact TK.r hT rfl | assumption) (by omega) (by with_reducible rfl) (by omega) (by first | decide | assumption | omega) rfl ?_
                  first | refine wp_iinc1 (w := nI 1) (pc' := 172) rfl rfl rfl (by with_reducible exact nI_add _ _) rfl ?_ | refine wp_iinc1 (w := nI 1) (pc' := 172) rfl rfl rfl rfl rfl ?_
                  refine wp_goto rfl ?_
                  exact WP.cg (ih (i + 1) _ _ _ _ _ _ _ _ _ (by omega) (by first | rfl | assumption) (by first | rfl | assumption) (by first | rfl | assumption) (by first | rfl | assumption) (by first | rfl | assumption) (by first | rfl | assumption) (by first | rfl | assumption) (by first | rfl | assumption) (by first | rfl | assumption)) (lC1 (lI1 (by rfl) (lC1 (lC1 (lC1 (lC1 (lC1 (lC1 (lC1 (lC1 (lC1 rfl))))))))))) rfl (by rw [up2_upr]; first | (rw [rt_fin (by omega) hvb2 (Or.inl rfl)]; exact congrArg (fun r => (K, upr I 330 r, L, R, n, s)) (cpy_up (f := cellC))) | (rw [rt_fin (by omega) hvb2 (Or.inr (Bool.eq_false_iff.mpr h126))]; exact congrArg (fun r => (K, upr I 330 r, L, R, n, s)) (cpy_up (f := cellC))))
                · intro h126
                  refine wp_iload8 (pc' := 131) rfl rfl ?_
                  refine wp_iconst (v := nI 1) (pc' := 132) rfl rfl rfl ?_
                  refine wp_iconst (v := nI 5) (pc' := 133) rfl rfl rfl ?_
                  refine wp_iload5 (pc' := 135) rfl rfl ?_
                  refine wp_iload7 (pc' := 137) rfl rfl ?_
                  refine wp_iload10 (pc' := 139) rfl rfl ?_
                  first | refine wp_imulN (pc' := 140) rfl (by with_reducible rfl) (by with_reducible rfl) rfl ?_ | refine wp_imul (pc' := 140) rfl rfl ?_
                  first | refine wp_iaddN (pc' := 141) rfl (by with_reducible rfl) (by with_reducible rfl) rfl ?_ | refine wp_iadd (pc' := 141) rfl rfl ?_
                  first | refine wp_imulN (pc' := 142) rfl (by with_reducible rfl) (by with_reducible rfl) rfl ?_ | refine wp_imul (pc' := 142) rfl rfl ?_
                  refine wp_iload4 (pc' := 144) rfl rfl ?_
                  first | refine wp_iaddN (pc' := 145) rfl (by with_reducible rfl) (by with_reducible rfl) rfl ?_ | refine wp_iadd (pc' := 145) rfl rfl ?_
                  refine wp_iload6 (pc' := 147) rfl rfl ?_
                  refine wp_iload10 (pc' := 149) rfl rfl ?_
                  first | refine wp_imulN (pc' := 150) rfl (by with_reducible rfl) (by with_reducible rfl) rfl ?_ | refine wp_imul (pc' := 150) rfl rfl ?_
                  first | refine wp_iaddN (pc' := 151) rfl (by with_reducible rfl) (by with_reducible rfl) rfl ?_ | refine wp_iadd (pc' := 151) rfl rfl ?_
                  refine wp_ishl (pc' := 152) rfl rfl ?_
                  refine wp_ior (pc' := 153) rfl rfl ?_
                  refine wp_istore8 (pc' := 155) rfl (by first | rfl | assumption) rfl ?_
                  first | refine wp_iinc10 (w := nI 1) (pc' := 158) rfl rfl rfl (by with_reducible exact nI_add _ _) rfl ?_ | refine wp_iinc10 (w := nI 1) (pc' := 158) rfl rfl rfl rfl rfl ?_
                  refine wp_goto rfl ?_
                  exact WP.cg (ihb (k + 1) dx dy f (by omega) hvb0 hvb1 hvb2) (lC1 (lI1 (by first | with_reducible rfl | (rw [if_pos h126, if_pos h126, hvb0, hvb1]; rfl)) (lI1 (by first | with_reducible rfl | (rw [if_pos h126, if_pos h126, hvb0, hvb1]; rfl)) (lI1 (by first | with_reducible rfl | (rw [if_pos h126, if_pos h126, hvb0, hvb1]; rfl)) (lI1 (by first | with_reducible rfl | (rw [if_pos h126, if_pos h126, hvb0, hvb1]; rfl)) (lI1 (by first | with_reducible rfl | (rw [if_pos h126, if_pos h126, hvb0, hvb1]; rfl)) (lI1 (by first | with_reducible rfl | (rw [if_pos h126, if_pos h126, hvb0, hvb1]; rfl)) (lI1 (by first | with_reducible rfl | (rw [if_pos h126, if_pos h126, hvb0, hvb1]; rfl)) (lI1 (by first | with_reducible rfl | (rw [if_pos h126, if_pos h126, hvb0, hvb1]; rfl)) (lI1 (by first | with_reducible rfl | (rw [if_pos h126, if_pos h126, hvb0, hvb1]; rfl)) (lI1 (by first | with_reducible rfl | (rw [if_pos h126, if_pos h126, hvb0, hvb1]; rfl)) rfl))))))))))) rfl (by rfl)
            exact WP.cg (lp118 ((i / 100 + 2) - (0)) (0) _ _ (decide (isTk i)) (by omega) (by unfold rtC; first | exact (if_pos h41).symm | (rw [if_neg h41, if_pos h50]; done) | (rw [if_neg h41, if_neg h50]; done)) (by unfold dnC; first | exact (if_pos h61).symm | exact (if_neg h61).symm) rfl) (lC1 (lI1 (by first | with_reducible rfl | exact fl_t h88 h105 | exact fl_1 h88 | exact fl_2 h105 | exact rt_0) (lI1 (by first | with_reducible rfl | exact fl_t h88 h105 | exact fl_1 h88 | exact fl_2 h105 | exact rt_0) (lI1 (by first | with_reducible rfl | exact fl_t h88 h105 | exact fl_1 h88 | exact fl_2 h105 | exact rt_0) (lI1 (by first | with_reducible rfl | exact fl_t h88 h105 | exact fl_1 h88 | exact fl_2 h105 | exact rt_0) (lI1 (by first | with_reducible rfl | exact fl_t h88 h105 | exact fl_1 h88 | exact fl_2 h105 | exact rt_0) (lI1 (by first | with_reducible rfl | exact fl_t h88 h105 | exact fl_1 h88 | exact fl_2 h105 | exact rt_0) (lI1 (by first | with_reducible rfl | exact fl_t h88 h105 | exact fl_1 h88 | exact fl_2 h105 | exact rt_0) (lI1 (by first | with_reducible rfl | exact fl_t h88 h105 | exact fl_1 h88 | exact fl_2 h105 | exact rt_0) (lI1 (by first | with_reducible rfl | exact fl_t h88 h105 | exact fl_1 h88 | exact fl_2 h105 | exact rt_0) (lI1 (by first | with_reducible rfl | exact fl_t h88 h105 | exact fl_1 h88 | exact fl_2 h105 | exact rt_0) rfl))))))))))) rfl (by rfl)
          · intro h88
            refine wp_iload5 (pc' := 93) rfl rfl ?_
            refine wp_iload7 (pc' := 95) rfl rfl ?_
            refine wp_iload2 (pc' := 96) rfl rfl ?_
            refine wp_iconst (v := nI 1) (pc' := 97) rfl rfl rfl ?_
            first | refine wp_isubN (pc' := 98) rfl (by with_reducible rfl) (by with_reducible rfl) (by omega) rfl ?_ | refine wp_isub (pc' := 98) rfl rfl ?_
            first | refine wp_imulN (pc' := 99) rfl (by with_reducible rfl) (by with_reducible rfl) rfl ?_ | refine wp_imul (pc' := 99) rfl rfl ?_
            first | refine wp_iaddN (pc' := 100) rfl (by with_reducible rfl) (by with_reducible rfl) rfl ?_ | refine wp_iadd (pc' := 100) rfl rfl ?_
            refine wp_iconst (v := nI 0) (pc' := 101) rfl rfl rfl ?_
            refine wp_iconst (v := nI 4) (pc' := 102) rfl rfl rfl ?_
            refine wp_callS3 (pc' := 105) rfl rfl rfl rfl rfl rfl ?_
            refine m_in ?_
            first | rw [show nI (i % 25 / 5 + 1 * (i / 100 + 2 - 1)) = lyC i from by unfold lyC dnC; rw [if_neg h61, nI_mul, nI_add]] | rw [show nI (i % 25 / 5 + 0 * (i / 100 + 2 - 1)) = lyC i from by unfold lyC dnC; rw [if_pos h61, nI_mul, nI_add]]
            refine Cont.v ?_
            first | refine wp_ifeqB (pc' := 108) rfl rfl ?_ ?_ | refine wp_ifeq (pc' := 108) rfl rfl ?_ ?_
            · intro h105
              refine wp_iconst (v := nI 0) (pc' := 113) rfl rfl rfl ?_
              refine wp_istore9 (pc' := 115) rfl (by first | rfl | assumption) rfl ?_
              refine wp_iconst (v := nI 0) (pc' := 116) rfl rfl rfl ?_
              refine wp_istore10 (pc' := 118) rfl (by first | rfl | assumption) rfl ?_
              have lp118 : ∀ rb (k : Nat) (dx dy : Int32) (f : Bool), k + rb = (i / 100 + 2) → dx = rtC (i / 25 % 4) → dy = dnC (i / 25 % 4) → f = decide (isTk i) → WP (d + 1) F_318 118 [.ref 318, .int (nI i), .int (nI (i / 100 + 2)), .int (nI (i / 25 % 4)), .int (nI (i % 25 % 5)), .int (nI (i % 25 / 5)), .int dx, .int dy, .int (if f = true then rtN i k else nI 0), .int (if f = true then nI 1 else nI 0), .int (nI k)] [] (K, upr I 330 (cpy i cellC (I 330)), L, R, n, s) Q := by
                intro rb; induction rb with
                | zero =>
                  intro k dx dy f hib hvb0 hvb1 hvb2
                  have hi2b : k = (i / 100 + 2) := by omega
                  subst hi2b
                  refine wp_iload10 (pc' := 120) rfl rfl ?_
                  refine wp_iload2 (pc' := 121) rfl rfl ?_
                  refine wp_icmpgeT rfl (nI_nlt (by omega) (by omega)) ?_
                  refine wp_aload0 (pc' := 162) rfl rfl ?_
                  refine wp_getRF (pc' := 165) rfl rfl (by first | exact TK.k1 hT rfl | exact TK.kk hT rfl | exact TK.r hT rfl | assumption) (by first | exact TK.k1 hT rfl | exact TK.kk hT rfl | exact TK.r hT rfl | assumption) rfl ?_
                  refine wp_iload1 (pc' := 166) rfl rfl ?_
                  refine wp_iload8 (pc' := 168) rfl rfl ?_
                  refine wp_iast _ (pc' := 169) rfl (by first | exact TK.k1 hT rfl | exact TK.kk hT rfl | exact TK.r hT rfl | assumption) (by omega) (by with_reducible rfl) (by omega) (by first | decide | assumption | omega) rfl ?_
                  first | refine wp_iinc1 (w := nI 1) (pc' := 172) rfl rfl rfl (by with_reducible exact nI_add _ _) rfl ?_ | refine wp_iinc1 (w := nI 1) (pc' := 172) rfl rfl rfl rfl rfl ?_
                  refine wp_goto rfl ?_
                  exact WP.cg (ih (i + 1) _ _ _ _ _ _ _ _ _ (by omega) (by first | rfl | assumption) (by first | rfl | assumption) (by first | rfl | assumption) (by first | rfl | assumption) (by first | rfl | assumption) (by first | rfl | assumption) (by first | rfl | assumption) (by first | rfl | assumption) (by first | rfl | assumption)) (lC1 (lI1 (by rfl) (lC1 (lC1 (lC1 (lC1 (lC1 (lC1 (lC1 (lC1 (lC1 rfl))))))))))) rfl (by rw [up2_upr]; first | (rw [rt_fin (by omega) hvb2 (Or.inl rfl)]; exact congrArg (fun r => (K, upr I 330 r, L, R, n, s)) (cpy_up (f := cellC))) | (rw [rt_fin (by omega) hvb2 (Or.inr (Bool.eq_false_iff.mpr h126))]; exact congrArg (fun r => (K, upr I 330 r, L, R, n, s)) (cpy_up (f := cellC))))
                | succ rb ihb =>
                  intro k dx dy f hib hvb0 hvb1 hvb2
                  have hltb : k < (i / 100 + 2) := by omega
                  refine wp_iload10 (pc' := 120) rfl rfl ?_
                  refine wp_iload2 (pc' := 121) rfl rfl ?_
                  refine wp_icmpgeF (pc' := 124) rfl (nI_lt (by omega) (by omega)) rfl ?_
                  refine wp_iload9 (pc' := 126) rfl rfl ?_
                  first | refine wp_ifeqB (pc' := 129) rfl rfl ?_ ?_ | refine wp_ifeq (pc' := 129) rfl rfl ?_ ?_
                  · intro h126
                    refine wp_aload0 (pc' := 162) rfl rfl ?_
                    refine wp_getRF (pc' := 165) rfl rfl (by first | exact TK.k1 hT rfl | exact TK.kk hT rfl | exact TK.r hT rfl | assumption) (by first | exact TK.k1 hT rfl | exact TK.kk hT rfl | exact TK.r hT rfl | assumption) rfl ?_
                    refine wp_iload1 (pc' := 166) rfl rfl ?_
                    refine wp_iload8 (pc' := 168) rfl rfl ?_
                    refine wp_iast _ (pc' := 169) rfl (by first | exact TK.k1 hT rfl | exact TK.kk hT rfl | exact TK.r hT rfl | assumption) (by omega) (by with_reducible rfl) (by omega) (by first | decide | assumption | omega) rfl ?_
                    first | refine wp_iinc1 (w := nI 1) (pc' := 172) rfl rfl rfl (by with_reducible exact nI_add _ _) rfl ?_ | refine wp_iinc1 (w := nI 1) (pc' := 172) rfl rfl rfl rfl rfl ?_
                    refine wp_goto rfl ?_
                    exact WP.cg (ih (i + 1) _ _ _ _ _ _ _ _ _ (by omega) (by first | rfl | assumption) (by first | rfl | assumption) (by first | rfl | assumption) (by first | rfl | assumption) (by first | rfl | assumption) (by first | rfl | assumption) (by first | rfl | assumption) (by first | rfl | assumption) (by first | rfl | assumption)) (lC1 (lI1 (by rfl) (lC1 (lC1 (lC1 (lC1 (lC1 (lC1 (lC1 (lC1 (lC1 rfl))))))))))) rfl (by rw [up2_upr]; first | (rw [rt_fin (by omega) hvb2 (Or.inl rfl)]; exact congrArg (fun r => (K, upr I 330 r, L, R, n, s)) (cpy_up (f := cellC))) | (rw [rt_fin (by omega) hvb2 (Or.inr (Bool.eq_false_iff.mpr h126))]; exact congrArg (fun r => (K, upr I 330 r, L, R, n, s)) (cpy_up (f := cellC))))
                  · intro h126
                    refine wp_iload8 (pc' := 131) rfl rfl ?_
                    refine wp_iconst (v := nI 1) (pc' := 132) rfl rfl rfl ?_
                    refine wp_iconst (v := nI 5) (pc' := 133) rfl rfl rfl ?_
                    refine wp_iload5 (pc' := 135) rfl rfl ?_
                    refine wp_iload7 (pc' := 137) rfl rfl ?_
                    refine wp_iload10 (pc' := 139) rfl rfl ?_
                    first | refine wp_imulN (pc' := 140) rfl (by with_reducible rfl) (by with_reducible rfl) rfl ?_ | refine wp_imul (pc' := 140) rfl rfl ?_
                    first | refine wp_iaddN (pc' := 141) rfl (by with_reducible rfl) (by with_reducible rfl) rfl ?_ | refine wp_iadd (pc' := 141) rfl rfl ?_
                    first | refine wp_imulN (pc' := 142) rfl (by with_reducible rfl) (by with_reducible rfl) rfl ?_ | refine wp_imul (pc' := 142) rfl rfl ?_
                    refine wp_iload4 (pc' := 144) rfl rfl ?_
                    first | refine wp_iaddN (pc' := 145) rfl (by with_reducible rfl) (by with_reducible rfl) rfl ?_ | refine wp_iadd (pc' := 145) rfl rfl ?_
                    refine wp_iload6 (pc' := 147) rfl rfl ?_
                    refine wp_iload10 (pc' := 149) rfl rfl ?_
                    first | refine wp_imulN (pc' := 150) rfl (by with_reducible rfl) (by with_reducible rfl) rfl ?_ | refine wp_imul (pc' := 150) rfl rfl ?_
                    first | refine wp_iaddN (pc' := 151) rfl (by with_reducible rfl) (by with_reducible rfl) rfl ?_ | refine wp_iadd (pc' := 151) rfl rfl ?_
                    refine wp_ishl (pc' := 152) rfl rfl ?_
                    refine wp_ior (pc' := 153) rfl rfl ?_
                    refine wp_istore8 (pc' := 155) rfl (by first | rfl | assumption) rfl ?_
                    first | refine wp_iinc10 (w := nI 1) (pc' := 158) rfl rfl rfl (by with_reducible exact nI_add _ _) rfl ?_ | refine wp_iinc10 (w := nI 1) (pc' := 158) rfl rfl rfl rfl rfl ?_
                    refine wp_goto rfl ?_
                    exact WP.cg (ihb (k + 1) dx dy f (by omega) hvb0 hvb1 hvb2) (lC1 (lI1 (by first | with_reducible rfl | (rw [if_pos h126, if_pos h126, hvb0, hvb1]; rfl)) (lI1 (by first | with_reducible rfl | (rw [if_pos h126, if_pos h126, hvb0, hvb1]; rfl)) (lI1 (by first | with_reducible rfl | (rw [if_pos h126, if_pos h126, hvb0, hvb1]; rfl)) (lI1 (by first | with_reducible rfl | (rw [if_pos h126, if_pos h126, hvb0, hvb1]; rfl)) (lI1 (by first | with_reducible rfl | (rw [if_pos h126, if_pos h126, hvb0, hvb1]; rfl)) (lI1 (by first | with_reducible rfl | (rw [if_pos h126, if_pos h126, hvb0, hvb1]; rfl)) (lI1 (by first | with_reducible rfl | (rw [if_pos h126, if_pos h126, hvb0, hvb1]; rfl)) (lI1 (by first | with_reducible rfl | (rw [if_pos h126, if_pos h126, hvb0, hvb1]; rfl)) (lI1 (by first | with_reducible rfl | (rw [if_pos h126, if_pos h126, hvb0, hvb1]; rfl)) (lI1 (by first | with_reducible rfl | (rw [if_pos h126, if_pos h126, hvb0, hvb1]; rfl)) rfl))))))))))) rfl (by rfl)
              exact WP.cg (lp118 ((i / 100 + 2) - (0)) (0) _ _ (decide (isTk i)) (by omega) (by unfold rtC; first | exact (if_pos h41).symm | (rw [if_neg h41, if_pos h50]; done) | (rw [if_neg h41, if_neg h50]; done)) (by unfold dnC; first | exact (if_pos h61).symm | exact (if_neg h61).symm) rfl) (lC1 (lI1 (by first | with_reducible rfl | exact fl_t h88 h105 | exact fl_1 h88 | exact fl_2 h105 | exact rt_0) (lI1 (by first | with_reducible rfl | exact fl_t h88 h105 | exact fl_1 h88 | exact fl_2 h105 | exact rt_0) (lI1 (by first | with_reducible rfl | exact fl_t h88 h105 | exact fl_1 h88 | exact fl_2 h105 | exact rt_0) (lI1 (by first | with_reducible rfl | exact fl_t h88 h105 | exact fl_1 h88 | exact fl_2 h105 | exact rt_0) (lI1 (by first | with_reducible rfl | exact fl_t h88 h105 | exact fl_1 h88 | exact fl_2 h105 | exact rt_0) (lI1 (by first | with_reducible rfl | exact fl_t h88 h105 | exact fl_1 h88 | exact fl_2 h105 | exact rt_0) (lI1 (by first | with_reducible rfl | exact fl_t h88 h105 | exact fl_1 h88 | exact fl_2 h105 | exact rt_0) (lI1 (by first | with_reducible rfl | exact fl_t h88 h105 | exact fl_1 h88 | exact fl_2 h105 | exact rt_0) (lI1 (by first | with_reducible rfl | exact fl_t h88 h105 | exact fl_1 h88 | exact fl_2 h105 | exact rt_0) (lI1 (by first | with_reducible rfl | exact fl_t h88 h105 | exact fl_1 h88 | exact fl_2 h105 | exact rt_0) rfl))))))))))) rfl (by rfl)
            · intro h105
              refine wp_iconst (v := nI 1) (pc' := 109) rfl rfl rfl ?_
              refine wp_goto rfl ?_
              refine wp_istore9 (pc' := 115) rfl (by first | rfl | assumption) rfl ?_
              refine wp_iconst (v := nI 0) (pc' := 116) rfl rfl rfl ?_
              refine wp_istore10 (pc' := 118) rfl (by first | rfl | assumption) rfl ?_
              have lp118 : ∀ rb (k : Nat) (dx dy : Int32) (f : Bool), k + rb = (i / 100 + 2) → dx = rtC (i / 25 % 4) → dy = dnC (i / 25 % 4) → f = decide (isTk i) → WP (d + 1) F_318 118 [.ref 318, .int (nI i), .int (nI (i / 100 + 2)), .int (nI (i / 25 % 4)), .int (nI (i % 25 % 5)), .int (nI (i % 25 / 5)), .int dx, .int dy, .int (if f = true then rtN i k else nI 0), .int (if f = true then nI 1 else nI 0), .int (nI k)] [] (K, upr I 330 (cpy i cellC (I 330)), L, R, n, s) Q := by
                intro rb; induction rb with
                | zero =>
                  intro k dx dy f hib hvb0 hvb1 hvb2
                  have hi2b : k = (i / 100 + 2) := by omega
                  subst hi2b
                  refine wp_iload10 (pc' := 120) rfl rfl ?_
                  refine wp_iload2 (pc' := 121) rfl rfl ?_
                  refine wp_icmpgeT rfl (nI_nlt (by omega) (by omega)) ?_
                  refine wp_aload0 (pc' := 162) rfl rfl ?_
                  refine wp_getRF (pc' := 165) rfl rfl (by first | exact TK.k1 hT rfl | exact TK.kk hT rfl | exact TK.r hT rfl | assumption) (by first | exact TK.k1 hT rfl | exact TK.kk hT rfl | exact TK.r hT rfl | assumption) rfl ?_
                  refine wp_iload1 (pc' := 166) rfl rfl ?_
                  refine wp_iload8 (pc' := 168) rfl rfl ?_
                  refine wp_iast _ (pc' := 169) rfl (by first | exact TK.k1 hT rfl | exact TK.kk hT rfl | exact TK.r hT rfl | assumption) (by omega) (by with_reducible rfl) (by omega) (by first | decide | assumption | omega) rfl ?_
                  first | refine wp_iinc1 (w := nI 1) (pc' := 172) rfl rfl rfl (by with_reducible exact nI_add _ _) rfl ?_ | refine wp_iinc1 (w := nI 1) (pc' := 172) rfl rfl rfl rfl rfl ?_
                  refine wp_goto rfl ?_
                  exact WP.cg (ih (i + 1) _ _ _ _ _ _ _ _ _ (by omega) (by first | rfl | assumption) (by first | rfl | assumption) (by first | rfl | assumption) (by first | rfl | assumption) (by first | rfl | assumption) (by first | rfl | assumption) (by first | rfl | assumption) (by first | rfl | assumption) (by first | rfl | assumption)) (lC1 (lI1 (by rfl) (lC1 (lC1 (lC1 (lC1 (lC1 (lC1 (lC1 (lC1 (lC1 rfl))))))))))) rfl (by rw [up2_upr]; first | (rw [rt_fin (by omega) hvb2 (Or.inl rfl)]; exact congrArg (fun r => (K, upr I 330 r, L, R, n, s)) (cpy_up (f := cellC))) | (rw [rt_fin (by omega) hvb2 (Or.inr (Bool.eq_false_iff.mpr h126))]; exact congrArg (fun r => (K, upr I 330 r, L, R, n, s)) (cpy_up (f := cellC))))
                | succ rb ihb =>
                  intro k dx dy f hib hvb0 hvb1 hvb2
                  have hltb : k < (i / 100 + 2) := by omega
                  refine wp_iload10 (pc' := 120) rfl rfl ?_
                  refine wp_iload2 (pc' := 121) rfl rfl ?_
                  refine wp_icmpgeF (pc' := 124) rfl (nI_lt (by omega) (by omega)) rfl ?_
                  refine wp_iload9 (pc' := 126) rfl rfl ?_
                  first | refine wp_ifeqB (pc' := 129) rfl rfl ?_ ?_ | refine wp_ifeq (pc' := 129) rfl rfl ?_ ?_
                  · intro h126
                    refine wp_aload0 (pc' := 162) rfl rfl ?_
                    refine wp_getRF (pc' := 165) rfl rfl (by first | exact TK.k1 hT rfl | exact TK.kk hT rfl | exact TK.r hT rfl | assumption) (by first | exact TK.k1 hT rfl | exact TK.kk hT rfl | exact TK.r hT rfl | assumption) rfl ?_
                    refine wp_iload1 (pc' := 166) rfl rfl ?_
                    refine wp_iload8 (pc' := 168) rfl rfl ?_
                    refine wp_iast _ (pc' := 169) rfl (by first | exact TK.k1 hT rfl | exact TK.kk hT rfl | exact TK.r hT rfl | assumption) (by omega) (by with_reducible rfl) (by omega) (by first | decide | assumption | omega) rfl ?_
                    first | refine wp_iinc1 (w := nI 1) (pc' := 172) rfl rfl rfl (by with_reducible exact nI_add _ _) rfl ?_ | refine wp_iinc1 (w := nI 1) (pc' := 172) rfl rfl rfl rfl rfl ?_
                    refine wp_goto rfl ?_
                    exact WP.cg (ih (i + 1) _ _ _ _ _ _ _ _ _ (by omega) (by first | rfl | assumption) (by first | rfl | assumption) (by first | rfl | assumption) (by first | rfl | assumption) (by first | rfl | assumption) (by first | rfl | assumption) (by first | rfl | assumption) (by first | rfl | assumption) (by first | rfl | assumption)) (lC1 (lI1 (by rfl) (lC1 (lC1 (lC1 (lC1 (lC1 (lC1 (lC1 (lC1 (lC1 rfl))))))))))) rfl (by rw [up2_upr]; first | (rw [rt_fin (by omega) hvb2 (Or.inl rfl)]; exact congrArg (fun r => (K, upr I 330 r, L, R, n, s)) (cpy_up (f := cellC))) | (rw [rt_fin (by omega) hvb2 (Or.inr (Bool.eq_false_iff.mpr h126))]; exact congrArg (fun r => (K, upr I 330 r, L, R, n, s)) (cpy_up (f := cellC))))
                  · intro h126
                    refine wp_iload8 (pc' := 131) rfl rfl ?_
                    refine wp_iconst (v := nI 1) (pc' := 132) rfl rfl rfl ?_
                    refine wp_iconst (v := nI 5) (pc' := 133) rfl rfl rfl ?_
                    refine wp_iload5 (pc' := 135) rfl rfl ?_
                    refine wp_iload7 (pc' := 137) rfl rfl ?_
                    refine wp_iload10 (pc' := 139) rfl rfl ?_
                    first | refine wp_imulN (pc' := 140) rfl (by with_reducible rfl) (by with_reducible rfl) rfl ?_ | refine wp_imul (pc' := 140) rfl rfl ?_
                    first | refine wp_iaddN (pc' := 141) rfl (by with_reducible rfl) (by with_reducible rfl) rfl ?_ | refine wp_iadd (pc' := 141) rfl rfl ?_
                    first | refine wp_imulN (pc' := 142) rfl (by with_reducible rfl) (by with_reducible rfl) rfl ?_ | refine wp_imul (pc' := 142) rfl rfl ?_
                    refine wp_iload4 (pc' := 144) rfl rfl ?_
                    first | refine wp_iaddN (pc' := 145) rfl (by with_reducible rfl) (by with_reducible rfl) rfl ?_ | refine wp_iadd (pc' := 145) rfl rfl ?_
                    refine wp_iload6 (pc' := 147) rfl rfl ?_
                    refine wp_iload10 (pc' := 149) rfl rfl ?_
                    first | refine wp_imulN (pc' := 150) rfl (by with_reducible rfl) (by with_reducible rfl) rfl ?_ | refine wp_imul (pc' := 150) rfl rfl ?_
                    first | refine wp_iaddN (pc' := 151) rfl (by with_reducible rfl) (by with_reducible rfl) rfl ?_ | refine wp_iadd (pc' := 151) rfl rfl ?_
                    refine wp_ishl (pc' := 152) rfl rfl ?_
                    refine wp_ior (pc' := 153) rfl rfl ?_
                    refine wp_istore8 (pc' := 155) rfl (by first | rfl | assumption) rfl ?_
                    first | refine wp_iinc10 (w := nI 1) (pc' := 158) rfl rfl rfl (by with_reducible exact nI_add _ _) rfl ?_ | refine wp_iinc10 (w := nI 1) (pc' := 158) rfl rfl rfl rfl rfl ?_
                    refine wp_goto rfl ?_
                    exact WP.cg (ihb (k + 1) dx dy f (by omega) hvb0 hvb1 hvb2) (lC1 (lI1 (by first | with_reducible rfl | (rw [if_pos h126, if_pos h126, hvb0, hvb1]; rfl)) (lI1 (by first | with_reducible rfl | (rw [if_pos h126, if_pos h126, hvb0, hvb1]; rfl)) (lI1 (by first | with_reducible rfl | (rw [if_pos h126, if_pos h126, hvb0, hvb1]; rfl)) (lI1 (by first | with_reducible rfl | (rw [if_pos h126, if_pos h126, hvb0, hvb1]; rfl)) (lI1 (by first | with_reducible rfl | (rw [if_pos h126, if_pos h126, hvb0, hvb1]; rfl)) (lI1 (by first | with_reducible rfl | (rw [if_pos h126, if_pos h126, hvb0, hvb1]; rfl)) (lI1 (by first | with_reducible rfl | (rw [if_pos h126, if_pos h126, hvb0, hvb1]; rfl)) (lI1 (by first | with_reducible rfl | (rw [if_pos h126, if_pos h126, hvb0, hvb1]; rfl)) (lI1 (by first | with_reducible rfl | (rw [if_pos h126, if_pos h126, hvb0, hvb1]; rfl)) (lI1 (by first | with_reducible rfl | (rw [if_pos h126, if_pos h126, hvb0, hvb1]; rfl)) rfl))))))))))) rfl (by rfl)
              exact WP.cg (lp118 ((i / 100 + 2) - (0)) (0) _ _ (decide (isTk i)) (by omega) (by unfold rtC; first | exact (if_pos h41).symm | (rw [if_neg h41, if_pos h50]; done) | (rw [if_neg h41, if_neg h50]; done)) (by unfold dnC; first | exact (if_pos h61).symm | exact (if_neg h61).symm) rfl) (lC1 (lI1 (by first | with_reducible rfl | exact fl_t h88 h105 | exact fl_1 h88 | exact fl_2 h105 | exact rt_0) (lI1 (by first | with_reducible rfl | exact fl_t h88 h105 | exact fl_1 h88 | exact fl_2 h105 | exact rt_0) (lI1 (by first | with_reducible rfl | exact fl_t h88 h105 | exact fl_1 h88 | exact fl_2 h105 | exact rt_0) (lI1 (by first | with_reducible rfl | exact fl_t h88 h105 | exact fl_1 h88 | exact fl_2 h105 | exact rt_0) (lI1 (by first | with_reducible rfl | exact fl_t h88 h105 | exact fl_1 h88 | exact fl_2 h105 | exact rt_0) (lI1 (by first | with_reducible rfl | exact fl_t h88 h105 | exact fl_1 h88 | exact fl_2 h105 | exact rt_0) (lI1 (by first | with_reducible rfl | exact fl_t h88 h105 | exact fl_1 h88 | exact fl_2 h105 | exact rt_0) (lI1 (by first | with_reducible rfl | exact fl_t h88 h105 | exact fl_1 h88 | exact fl_2 h105 | exact rt_0) (lI1 (by first | with_reducible rfl | exact fl_t h88 h105 | exact fl_1 h88 | exact fl_2 h105 | exact rt_0) (lI1 (by first | with_reducible rfl | exact fl_t h88 h105 | exact fl_1 h88 | exact fl_2 h105 | exact rt_0) rfl))))))))))) rfl (by rfl)
        · intro h61
          refine wp_iconst (v := nI 0) (pc' := 65) rfl rfl rfl ?_
          refine wp_goto rfl ?_
          refine wp_istore7 (pc' := 71) rfl (by first | rfl | assumption) rfl ?_
          refine wp_iconst (v := nI 0) (pc' := 72) rfl rfl rfl ?_
          refine wp_istore8 (pc' := 74) rfl (by first | rfl | assumption) rfl ?_
          refine wp_iload4 (pc' := 76) rfl rfl ?_
          refine wp_iload6 (pc' := 78) rfl rfl ?_
          refine wp_iload2 (pc' := 79) rfl rfl ?_
          refine wp_iconst (v := nI 1) (pc' := 80) rfl rfl rfl ?_
          first | refine wp_isubN (pc' := 81) rfl (by with_reducible rfl) (by with_reducible rfl) (by omega) rfl ?_ | refine wp_isub (pc' := 81) rfl rfl ?_
          first | refine wp_imulN (pc' := 82) rfl (by with_reducible rfl) (by with_reducible rfl) rfl ?_ | refine wp_imul (pc' := 82) rfl rfl ?_
          first | refine wp_iaddN (pc' := 83) rfl (by with_reducible rfl) (by with_reducible rfl) rfl ?_ | refine wp_iadd (pc' := 83) rfl rfl ?_
          refine wp_iconst (v := nI 0) (pc' := 84) rfl rfl rfl ?_
          refine wp_iconst (v := nI 4) (pc' := 85) rfl rfl rfl ?_
          refine wp_callS3 (pc' := 88) rfl rfl rfl rfl rfl rfl ?_
          refine m_in ?_
          first | rw [show nI (i % 25 % 5 + 1 * (i / 100 + 2 - 1)) = lxC i from by unfold lxC rtC; rw [if_neg h41, if_neg h50, nI_mul, nI_add]] | rw [show nI (i % 25 % 5 + 0 * (i / 100 + 2 - 1)) = lxC i from by unfold lxC rtC; rw [if_pos h41, nI_mul, nI_add]] | rw [show nI (i % 25 % 5) + (-1) * nI (i / 100 + 2 - 1) = lxC i from by unfold lxC rtC; rw [if_neg h41, if_pos h50]]
          refine Cont.v ?_
          first | refine wp_ifeqB (pc' := 91) rfl rfl ?_ ?_ | refine wp_ifeq (pc' := 91) rfl rfl ?_ ?_
          · intro h88
            refine wp_iconst (v := nI 0) (pc' := 113) rfl rfl rfl ?_
            refine wp_istore9 (pc' := 115) rfl (by first | rfl | assumption) rfl ?_
            refine wp_iconst (v := nI 0) (pc' := 116) rfl rfl rfl ?_
            refine wp_istore10 (pc' := 118) rfl (by first | rfl | assumption) rfl ?_
            have lp118 : ∀ rb (k : Nat) (dx dy : Int32) (f : Bool), k + rb = (i / 100 + 2) → dx = rtC (i / 25 % 4) → dy = dnC (i / 25 % 4) → f = decide (isTk i) → WP (d + 1) F_318 118 [.ref 318, .int (nI i), .int (nI (i / 100 + 2)), .int (nI (i / 25 % 4)), .int (nI (i % 25 % 5)), .int (nI (i % 25 / 5)), .int dx, .int dy, .int (if f = true then rtN i k else nI 0), .int (if f = true then nI 1 else nI 0), .int (nI k)] [] (K, upr I 330 (cpy i cellC (I 330)), L, R, n, s) Q := by
              intro rb; induction rb with
              | zero =>
                intro k dx dy f hib hvb0 hvb1 hvb2
                have hi2b : k = (i / 100 + 2) := by omega
                subst hi2b
                refine wp_iload10 (pc' := 120) rfl rfl ?_
                refine wp_iload2 (pc' := 121) rfl rfl ?_
                refine wp_icmpgeT rfl (nI_nlt (by omega) (by omega)) ?_
                refine wp_aload0 (pc' := 162) rfl rfl ?_
                refine wp_getRF (pc' := 165) rfl rfl (by first | exact TK.k1 hT rfl | exact TK.kk hT rfl | exact TK.r hT rfl | assumption) (by first | exact TK.k1 hT rfl | exact TK.kk hT rfl | exact TK.r hT rfl | assumption) rfl ?_
                refine wp_iload1 (pc' := 166) rfl rfl ?_
                refine wp_iload8 (pc' := 168) rfl rfl ?_
                refine wp_iast _ (pc' := 169) rfl (by first | exact TK.k1 hT rfl | exact TK.kk hT rfl | exact TK.r hT rfl | assumption) (by omega) (by with_reducible rfl) (by omega) (by first | decide | assumption | omega) rfl ?_
                first | refine wp_iinc1 (w := nI 1) (pc' := 172) rfl rfl rfl (by with_reducible exact nI_add _ _) rfl ?_ | refine wp_iinc1 (w := nI 1) (pc' := 172) rfl rfl rfl rfl rfl ?_
                refine wp_goto rfl ?_
                exact WP.cg (ih (i + 1) _ _ _ _ _ _ _ _ _ (by omega) (by first | rfl | assumption) (by first | rfl | assumption) (by first | rfl | assumption) (by first | rfl | assumption) (by first | rfl | assumption) (by first | rfl | assumption) (by first | rfl | assumption) (by first | rfl | assumption) (by first | rfl | assumption)) (lC1 (lI1 (by rfl) (lC1 (lC1 (lC1 (lC1 (lC1 (lC1 (lC1 (lC1 (lC1 rfl))))))))))) rfl (by rw [up2_upr]; first | (rw [rt_fin (by omega) hvb2 (Or.inl rfl)]; exact congrArg (fun r => (K, upr I 330 r, L, R, n, s)) (cpy_up (f := cellC))) | (rw [rt_fin (by omega) hvb2 (Or.inr (Bool.eq_false_iff.mpr h126))]; exact congrArg (fun r => (K, upr I 330 r, L, R, n, s)) (cpy_up (f := cellC))))
              | succ rb ihb =>
                intro k dx dy f hib hvb0 hvb1 hvb2
                have hltb : k < (i / 100 + 2) := by omega
                refine wp_iload10 (pc' := 120) rfl rfl ?_
                refine wp_iload2 (pc' := 121) rfl rfl ?_
                refine wp_icmpgeF (pc' := 124) rfl (nI_lt (by omega) (by omega)) rfl ?_
                refine wp_iload9 (pc' := 126) rfl rfl ?_
                first | refine wp_ifeqB (pc' := 129) rfl rfl ?_ ?_ | refine wp_ifeq (pc' := 129) rfl rfl ?_ ?_
                · intro h126
                  refine wp_aload0 (pc' := 162) rfl rfl ?_
                  refine wp_getRF (pc' := 165) rfl rfl (by first | exact TK.k1 hT rfl | exact TK.kk hT rfl | exact TK.r hT rfl | assumption) (by first | exact TK.k1 hT rfl | exact TK.kk hT rfl | exact TK.r hT rfl | assumption) rfl ?_
                  refine wp_iload1 (pc' := 166) rfl rfl ?_
                  refine wp_iload8 (pc' := 168) rfl rfl ?_
                  refine wp_iast _ (pc' := 169) rfl (by first | exact TK.k1 hT rfl | exact TK.kk hT rfl | exact TK.r hT rfl | assumption) (by omega) (by with_reducible rfl) (by omega) (by first | decide | assumption | omega) rfl ?_
                  first | refine wp_iinc1 (w := nI 1) (pc' := 172) rfl rfl rfl (by with_reducible exact nI_add _ _) rfl ?_ | refine wp_iinc1 (w := nI 1) (pc' := 172) rfl rfl rfl rfl rfl ?_
                  refine wp_goto rfl ?_
                  exact WP.cg (ih (i + 1) _ _ _ _ _ _ _ _ _ (by omega) (by first | rfl | assumption) (by first | rfl | assumption) (by first | rfl | assumption) (by first | rfl | assumption) (by first | rfl | assumption) (by first | rfl | assumption) (by first | rfl | assumption) (by first | rfl | assumption) (by first | rfl | assumption)) (lC1 (lI1 (by rfl) (lC1 (lC1 (lC1 (lC1 (lC1 (lC1 (lC1 (lC1 (lC1 rfl))))))))))) rfl (by rw [up2_upr]; first | (rw [rt_fin (by omega) hvb2 (Or.inl rfl)]; exact congrArg (fun r => (K, upr I 330 r, L, R, n, s)) (cpy_up (f := cellC))) | (rw [rt_fin (by omega) hvb2 (Or.inr (Bool.eq_false_iff.mpr h126))]; exact congrArg (fun r => (K, upr I 330 r, L, R, n, s)) (cpy_up (f := cellC))))
                · intro h126
                  refine wp_iload8 (pc' := 131) rfl rfl ?_
                  refine wp_iconst (v := nI 1) (pc' := 132) rfl rfl rfl ?_
                  refine wp_iconst (v := nI 5) (pc' := 133) rfl rfl rfl ?_
                  refine wp_iload5 (pc' := 135) rfl rfl ?_
                  refine wp_iload7 (pc' := 137) rfl rfl ?_
                  refine wp_iload10 (pc' := 139) rfl rfl ?_
                  first | refine wp_imulN (pc' := 140) rfl (by with_reducible rfl) (by with_reducible rfl) rfl ?_ | refine wp_imul (pc' := 140) rfl rfl ?_
                  first | refine wp_iaddN (pc' := 141) rfl (by with_reducible rfl) (by with_reducible rfl) rfl ?_ | refine wp_iadd (pc' := 141) rfl rfl ?_
                  first | refine wp_imulN (pc' := 142) rfl (by with_reducible rfl) (by with_reducible rfl) rfl ?_ | refine wp_imul (pc' := 142) rfl rfl ?_
                  refine wp_iload4 (pc' := 144) rfl rfl ?_
                  first | refine wp_iaddN (pc' := 145) rfl (by with_reducible rfl) (by with_reducible rfl) rfl ?_ | refine wp_iadd (pc' := 145) rfl rfl ?_
                  refine wp_iload6 (pc' := 147) rfl rfl ?_
                  refine wp_iload10 (pc' := 149) rfl rfl ?_
                  first | refine wp_imulN (pc' := 150) rfl (by with_reducible rfl) (by with_reducible rfl) rfl ?_ | refine wp_imul (pc' := 150) rfl rfl ?_
                  first | refine wp_iaddN (pc' := 151) rfl (by with_reducible rfl) (by with_reducible rfl) rfl ?_ | refine wp_iadd (pc' := 151) rfl rfl ?_
                  refine wp_ishl (pc' := 152) rfl rfl ?_
                  refine wp_ior (pc' := 153) rfl rfl ?_
                  refine wp_istore8 (pc' := 155) rfl (by first | rfl | assumption) rfl ?_
                  first | refine wp_iinc10 (w := nI 1) (pc' := 158) rfl rfl rfl (by with_reducible exact nI_add _ _) rfl ?_ | refine wp_iinc10 (w := nI 1) (pc' := 158) rfl rfl rfl rfl rfl ?_
                  refine wp_goto rfl ?_
                  exact WP.cg (ihb (k + 1) dx dy f (by omega) hvb0 hvb1 hvb2) (lC1 (lI1 (by first | with_reducible rfl | (rw [if_pos h126, if_pos h126, hvb0, hvb1]; rfl)) (lI1 (by first | with_reducible rfl | (rw [if_pos h126, if_pos h126, hvb0, hvb1]; rfl)) (lI1 (by first | with_reducible rfl | (rw [if_pos h126, if_pos h126, hvb0, hvb1]; rfl)) (lI1 (by first | with_reducible rfl | (rw [if_pos h126, if_pos h126, hvb0, hvb1]; rfl)) (lI1 (by first | with_reducible rfl | (rw [if_pos h126, if_pos h126, hvb0, hvb1]; rfl)) (lI1 (by first | with_reducible rfl | (rw [if_pos h126, if_pos h126, hvb0, hvb1]; rfl)) (lI1 (by first | with_reducible rfl | (rw [if_pos h126, if_pos h126, hvb0, hvb1]; rfl)) (lI1 (by first | with_reducible rfl | (rw [if_pos h126, if_pos h126, hvb0, hvb1]; rfl)) (lI1 (by first | with_reducible rfl | (rw [if_pos h126, if_pos h126, hvb0, hvb1]; rfl)) (lI1 (by first | with_reducible rfl | (rw [if_pos h126, if_pos h126, hvb0, hvb1]; rfl)) rfl))))))))))) rfl (by rfl)
            exact WP.cg (lp118 ((i / 100 + 2) - (0)) (0) _ _ (decide (isTk i)) (by omega) (by unfold rtC; first | exact (if_pos h41).symm | (rw [if_neg h41, if_pos h50]; done) | (rw [if_neg h41, if_neg h50]; done)) (by unfold dnC; first | exact (if_pos h61).symm | exact (if_neg h61).symm) rfl) (lC1 (lI1 (by first | with_reducible rfl | exact fl_t h88 h105 | exact fl_1 h88 | exact fl_2 h105 | exact rt_0) (lI1 (by first | with_reducible rfl | exact fl_t h88 h105 | exact fl_1 h88 | exact fl_2 h105 | exact rt_0) (lI1 (by first | with_reducible rfl | exact fl_t h88 h105 | exact fl_1 h88 | exact fl_2 h105 | exact rt_0) (lI1 (by first | with_reducible rfl | exact fl_t h88 h105 | exact fl_1 h88 | exact fl_2 h105 | exact rt_0) (lI1 (by first | with_reducible rfl | exact fl_t h88 h105 | exact fl_1 h88 | exact fl_2 h105 | exact rt_0) (lI1 (by first | with_reducible rfl | exact fl_t h88 h105 | exact fl_1 h88 | exact fl_2 h105 | exact rt_0) (lI1 (by first | with_reducible rfl | exact fl_t h88 h105 | exact fl_1 h88 | exact fl_2 h105 | exact rt_0) (lI1 (by first | with_reducible rfl | exact fl_t h88 h105 | exact fl_1 h88 | exact fl_2 h105 | exact rt_0) (lI1 (by first | with_reducible rfl | exact fl_t h88 h105 | exact fl_1 h88 | exact fl_2 h105 | exact rt_0) (lI1 (by first | with_reducible rfl | exact fl_t h88 h105 | exact fl_1 h88 | exact fl_2 h105 | exact rt_0) rfl))))))))))) rfl (by rfl)
          · intro h88
            refine wp_iload5 (pc' := 93) rfl rfl ?_
            refine wp_iload7 (pc' := 95) rfl rfl ?_
            refine wp_iload2 (pc' := 96) rfl rfl ?_
            refine wp_iconst (v := nI 1) (pc' := 97) rfl rfl rfl ?_
            first | refine wp_isubN (pc' := 98) rfl (by with_reducible rfl) (by with_reducible rfl) (by omega) rfl ?_ | refine wp_isub (pc' := 98) rfl rfl ?_
            first | refine wp_imulN (pc' := 99) rfl (by with_reducible rfl) (by with_reducible rfl) rfl ?_ | refine wp_imul (pc' := 99) rfl rfl ?_
            first | refine wp_iaddN (pc' := 100) rfl (by with_reducible rfl) (by with_reducible rfl) rfl ?_ | refine wp_iadd (pc' := 100) rfl rfl ?_
            refine wp_iconst (v := nI 0) (pc' := 101) rfl rfl rfl ?_
            refine wp_iconst (v := nI 4) (pc' := 102) rfl rfl rfl ?_
            refine wp_callS3 (pc' := 105) rfl rfl rfl rfl rfl rfl ?_
            refine m_in ?_
            first | rw [show nI (i % 25 / 5 + 1 * (i / 100 + 2 - 1)) = lyC i from by unfold lyC dnC; rw [if_neg h61, nI_mul, nI_add]] | rw [show nI (i % 25 / 5 + 0 * (i / 100 + 2 - 1)) = lyC i from by unfold lyC dnC; rw [if_pos h61, nI_mul, nI_add]]
            refine Cont.v ?_
            first | refine wp_ifeqB (pc' := 108) rfl rfl ?_ ?_ | refine wp_ifeq (pc' := 108) rfl rfl ?_ ?_
            · intro h105
              refine wp_iconst (v := nI 0) (pc' := 113) rfl rfl rfl ?_
              refine wp_istore9 (pc' := 115) rfl (by first | rfl | assumption) rfl ?_
              refine wp_iconst (v := nI 0) (pc' := 116) rfl rfl rfl ?_
              refine wp_istore10 (pc' := 118) rfl (by first | rfl | assumption) rfl ?_
              have lp118 : ∀ rb (k : Nat) (dx dy : Int32) (f : Bool), k + rb = (i / 100 + 2) → dx = rtC (i / 25 % 4) → dy = dnC (i / 25 % 4) → f = decide (isTk i) → WP (d + 1) F_318 118 [.ref 318, .int (nI i), .int (nI (i / 100 + 2)), .int (nI (i / 25 % 4)), .int (nI (i % 25 % 5)), .int (nI (i % 25 / 5)), .int dx, .int dy, .int (if f = true then rtN i k else nI 0), .int (if f = true then nI 1 else nI 0), .int (nI k)] [] (K, upr I 330 (cpy i cellC (I 330)), L, R, n, s) Q := by
                intro rb; induction rb with
                | zero =>
                  intro k dx dy f hib hvb0 hvb1 hvb2
                  have hi2b : k = (i / 100 + 2) := by omega
                  subst hi2b
                  refine wp_iload10 (pc' := 120) rfl rfl ?_
                  refine wp_iload2 (pc' := 121) rfl rfl ?_
                  refine wp_icmpgeT rfl (nI_nlt (by omega) (by omega)) ?_
                  refine wp_aload0 (pc' := 162) rfl rfl ?_
                  refine wp_getRF (pc' := 165) rfl rfl (by first | exact TK.k1 hT rfl | exact TK.kk hT rfl | exact TK.r hT rfl | assumption) (by first | exact TK.k1 hT rfl | exact TK.kk hT rfl | exact TK.r hT rfl | assumption) rfl ?_
                  refine wp_iload1 (pc' := 166) rfl rfl ?_
                  refine wp_iload8 (pc' := 168) rfl rfl ?_
                  refine wp_iast _ (pc' := 169) rfl (by first | exact TK.k1 hT rfl | exact TK.kk hT rfl | exact TK.r hT rfl | assumption) (by omega) (by with_reducible rfl) (by omega) (by first | decide | assumption | omega) rfl ?_
                  first | refine wp_iinc1 (w := nI 1) (pc' := 172) rfl rfl rfl (by with_reducible exact nI_add _ _) rfl ?_ | refine wp_iinc1 (w := nI 1) (pc' := 172) rfl rfl rfl rfl rfl ?_
                  refine wp_goto rfl ?_
                  exact WP.cg (ih (i + 1) _ _ _ _ _ _ _ _ _ (by omega) (by first | rfl | assumption) (by first | rfl | assumption) (by first | rfl | assumption) (by first | rfl | assumption) (by first | rfl | assumption) (by first | rfl | assumption) (by first | rfl | assumption) (by first | rfl | assumption) (by first | rfl | assumption)) (lC1 (lI1 (by rfl) (lC1 (lC1 (lC1 (lC1 (lC1 (lC1 (lC1 (lC1 (lC1 rfl))))))))))) rfl (by rw [up2_upr]; first | (rw [rt_fin (by omega) hvb2 (Or.inl rfl)]; exact congrArg (fun r => (K, upr I 330 r, L, R, n, s)) (cpy_up (f := cellC))) | (rw [rt_fin (by omega) hvb2 (Or.inr (Bool.eq_false_iff.mpr h126))]; exact congrArg (fun r => (K, upr I 330 r, L, R, n, s)) (cpy_up (f := cellC))))
                | succ rb ihb =>
                  intro k dx dy f hib hvb0 hvb1 hvb2
                  have hltb : k < (i / 100 + 2) := by omega
                  refine wp_iload10 (pc' := 120) rfl rfl ?_
                  refine wp_iload2 (pc' := 121) rfl rfl ?_
                  refine wp_icmpgeF (pc' := 124) rfl (nI_lt (by omega) (by omega)) rfl ?_
                  refine wp_iload9 (pc' := 126) rfl rfl ?_
                  first | refine wp_ifeqB (pc' := 129) rfl rfl ?_ ?_ | refine wp_ifeq (pc' := 129) rfl rfl ?_ ?_
                  · intro h126
                    refine wp_aload0 (pc' := 162) rfl rfl ?_
                    refine wp_getRF (pc' := 165) rfl rfl (by first | exact TK.k1 hT rfl | exact TK.kk hT rfl | exact TK.r hT rfl | assumption) (by first | exact TK.k1 hT rfl | exact TK.kk hT rfl | exact TK.r hT rfl | assumption) rfl ?_
                    refine wp_iload1 (pc' := 166) rfl rfl ?_
                    refine wp_iload8 (pc' := 168) rfl rfl ?_
                    refine wp_iast _ (pc' := 169) rfl (by first | exact TK.k1 hT rfl | exact TK.kk hT rfl | exact TK.r hT rfl | assumption) (by omega) (by with_reducible rfl) (by omega) (by first | decide | assumption | omega) rfl ?_
                    first | refine wp_iinc1 (w := nI 1) (pc' := 172) rfl rfl rfl (by with_reducible exact nI_add _ _) rfl ?_ | refine wp_iinc1 (w := nI 1) (pc' := 172) rfl rfl rfl rfl rfl ?_
                    refine wp_goto rfl ?_
                    exact WP.cg (ih (i + 1) _ _ _ _ _ _ _ _ _ (by omega) (by first | rfl | assumption) (by first | rfl | assumption) (by first | rfl | assumption) (by first | rfl | assumption) (by first | rfl | assumption) (by first | rfl | assumption) (by first | rfl | assumption) (by first | rfl | assumption) (by first | rfl | assumption)) (lC1 (lI1 (by rfl) (lC1 (lC1 (lC1 (lC1 (lC1 (lC1 (lC1 (lC1 (lC1 rfl))))))))))) rfl (by rw [up2_upr]; first | (rw [rt_fin (by omega) hvb2 (Or.inl rfl)]; exact congrArg (fun r => (K, upr I 330 r, L, R, n, s)) (cpy_up (f := cellC))) | (rw [rt_fin (by omega) hvb2 (Or.inr (Bool.eq_false_iff.mpr h126))]; exact congrArg (fun r => (K, upr I 330 r, L, R, n, s)) (cpy_up (f := cellC))))
                  · intro h126
                    refine wp_iload8 (pc' := 131) rfl rfl ?_
                    refine wp_iconst (v := nI 1) (pc' := 132) rfl rfl rfl ?_
                    refine wp_iconst (v := nI 5) (pc' := 133) rfl rfl rfl ?_
                    refine wp_iload5 (pc' := 135) rfl rfl ?_
                    refine wp_iload7 (pc' := 137) rfl rfl ?_
                    refine wp_iload10 (pc' := 139) rfl rfl ?_
                    first | refine wp_imulN (pc' := 140) rfl (by with_reducible rfl) (by with_reducible rfl) rfl ?_ | refine wp_imul (pc' := 140) rfl rfl ?_
                    first | refine wp_iaddN (pc' := 141) rfl (by with_reducible rfl) (by with_reducible rfl) rfl ?_ | refine wp_iadd (pc' := 141) rfl rfl ?_
                    first | refine wp_imulN (pc' := 142) rfl (by with_reducible rfl) (by with_reducible rfl) rfl ?_ | refine wp_imul (pc' := 142) rfl rfl ?_
                    refine wp_iload4 (pc' := 144) rfl rfl ?_
                    first | refine wp_iaddN (pc' := 145) rfl (by with_reducible rfl) (by with_reducible rfl) rfl ?_ | refine wp_iadd (pc' := 145) rfl rfl ?_
                    refine wp_iload6 (pc' := 147) rfl rfl ?_
                    refine wp_iload10 (pc' := 149) rfl rfl ?_
                    first | refine wp_imulN (pc' := 150) rfl (by with_reducible rfl) (by with_reducible rfl) rfl ?_ | refine wp_imul (pc' := 150) rfl rfl ?_
                    first | refine wp_iaddN (pc' := 151) rfl (by with_reducible rfl) (by with_reducible rfl) rfl ?_ | refine wp_iadd (pc' := 151) rfl rfl ?_
                    refine wp_ishl (pc' := 152) rfl rfl ?_
                    refine wp_ior (pc' := 153) rfl rfl ?_
                    refine wp_istore8 (pc' := 155) rfl (by first | rfl | assumption) rfl ?_
                    first | refine wp_iinc10 (w := nI 1) (pc' := 158) rfl rfl rfl (by with_reducible exact nI_add _ _) rfl ?_ | refine wp_iinc10 (w := nI 1) (pc' := 158) rfl rfl rfl rfl rfl ?_
                    refine wp_goto rfl ?_
                    exact WP.cg (ihb (k + 1) dx dy f (by omega) hvb0 hvb1 hvb2) (lC1 (lI1 (by first | with_reducible rfl | (rw [if_pos h126, if_pos h126, hvb0, hvb1]; rfl)) (lI1 (by first | with_reducible rfl | (rw [if_pos h126, if_pos h126, hvb0, hvb1]; rfl)) (lI1 (by first | with_reducible rfl | (rw [if_pos h126, if_pos h126, hvb0, hvb1]; rfl)) (lI1 (by first | with_reducible rfl | (rw [if_pos h126, if_pos h126, hvb0, hvb1]; rfl)) (lI1 (by first | with_reducible rfl | (rw [if_pos h126, if_pos h126, hvb0, hvb1]; rfl)) (lI1 (by first | with_reducible rfl | (rw [if_pos h126, if_pos h126, hvb0, hvb1]; rfl)) (lI1 (by first | with_reducible rfl | (rw [if_pos h126, if_pos h126, hvb0, hvb1]; rfl)) (lI1 (by first | with_reducible rfl | (rw [if_pos h126, if_pos h126, hvb0, hvb1]; rfl)) (lI1 (by first | with_reducible rfl | (rw [if_pos h126, if_pos h126, hvb0, hvb1]; rfl)) (lI1 (by first | with_reducible rfl | (rw [if_pos h126, if_pos h126, hvb0, hvb1]; rfl)) rfl))))))))))) rfl (by rfl)
              exact WP.cg (lp118 ((i / 100 + 2) - (0)) (0) _ _ (decide (isTk i)) (by omega) (by unfold rtC; first | exact (if_pos h41).symm | (rw [if_neg h41, if_pos h50]; done) | (rw [if_neg h41, if_neg h50]; done)) (by unfold dnC; first | exact (if_pos h61).symm | exact (if_neg h61).symm) rfl) (lC1 (lI1 (by first | with_reducible rfl | exact fl_t h88 h105 | exact fl_1 h88 | exact fl_2 h105 | exact rt_0) (lI1 (by first | with_reducible rfl | exact fl_t h88 h105 | exact fl_1 h88 | exact fl_2 h105 | exact rt_0) (lI1 (by first | with_reducible rfl | exact fl_t h88 h105 | exact fl_1 h88 | exact fl_2 h105 | exact rt_0) (lI1 (by first | with_reducible rfl | exact fl_t h88 h105 | exact fl_1 h88 | exact fl_2 h105 | exact rt_0) (lI1 (by first | with_reducible rfl | exact fl_t h88 h105 | exact fl_1 h88 | exact fl_2 h105 | exact rt_0) (lI1 (by first | with_reducible rfl | exact fl_t h88 h105 | exact fl_1 h88 | exact fl_2 h105 | exact rt_0) (lI1 (by first | with_reducible rfl | exact fl_t h88 h105 | exact fl_1 h88 | exact fl_2 h105 | exact rt_0) (lI1 (by first | with_reducible rfl | exact fl_t h88 h105 | exact fl_1 h88 | exact fl_2 h105 | exact rt_0) (lI1 (by first | with_reducible rfl | exact fl_t h88 h105 | exact fl_1 h88 | exact fl_2 h105 | exact rt_0) (lI1 (by first | with_reducible rfl | exact fl_t h88 h105 | exact fl_1 h88 | exact fl_2 h105 | exact rt_0) rfl))))))))))) rfl (by rfl)
            · intro h105
              refine wp_iconst (v := nI 1) (pc' := 109) rfl rfl rfl ?_
              refine wp_goto rfl ?_
              refine wp_istore9 (pc' := 115) rfl (by first | rfl | assumption) rfl ?_
              refine wp_iconst (v := nI 0) (pc' := 116) rfl rfl rfl ?_
              refine wp_istore10 (pc' := 118) rfl (by first | rfl | assumption) rfl ?_
              have lp118 : ∀ rb (k : Nat) (dx dy : Int32) (f : Bool), k + rb = (i / 100 + 2) → dx = rtC (i / 25 % 4) → dy = dnC (i / 25 % 4) → f = decide (isTk i) → WP (d + 1) F_318 118 [.ref 318, .int (nI i), .int (nI (i / 100 + 2)), .int (nI (i / 25 % 4)), .int (nI (i % 25 % 5)), .int (nI (i % 25 / 5)), .int dx, .int dy, .int (if f = true then rtN i k else nI 0), .int (if f = true then nI 1 else nI 0), .int (nI k)] [] (K, upr I 330 (cpy i cellC (I 330)), L, R, n, s) Q := by
                intro rb; induction rb with
                | zero =>
                  intro k dx dy f hib hvb0 hvb1 hvb2
                  have hi2b : k = (i / 100 + 2) := by omega
                  subst hi2b
                  refine wp_iload10 (pc' := 120) rfl rfl ?_
                  refine wp_iload2 (pc' := 121) rfl rfl ?_
                  refine wp_icmpgeT rfl (nI_nlt (by omega) (by omega)) ?_
                  refine wp_aload0 (pc' := 162) rfl rfl ?_
                  refine wp_getRF (pc' := 165) rfl rfl (by first | exact TK.k1 hT rfl | exact TK.kk hT rfl | exact TK.r hT rfl | assumption) (by first | exact TK.k1 hT rfl | exact TK.kk hT rfl | exact TK.r hT rfl | assumption) rfl ?_
                  refine wp_iload1 (pc' := 166) rfl rfl ?_
                  refine wp_iload8 (pc' := 168) rfl rfl ?_
                  refine wp_iast _ (pc' := 169) rfl (by first | exact TK.k1 hT rfl | exact TK.kk hT rfl | exact TK.r hT rfl | assumption) (by omega) (by with_reducible rfl) (by omega) (by first | decide | assumption | omega) rfl ?_
                  first | refine wp_iinc1 (w := nI 1) (pc' := 172) rfl rfl rfl (by with_reducible exact nI_add _ _) rfl ?_ | refine wp_iinc1 (w := nI 1) (pc' := 172) rfl rfl rfl rfl rfl ?_
                  refine wp_goto rfl ?_
                  exact WP.cg (ih (i + 1) _ _ _ _ _ _ _ _ _ (by omega) (by first | rfl | assumption) (by first | rfl | assumption) (by first | rfl | assumption) (by first | rfl | assumption) (by first | rfl | assumption) (by first | rfl | assumption) (by first | rfl | assumption) (by first | rfl | assumption) (by first | rfl | assumption)) (lC1 (lI1 (by rfl) (lC1 (lC1 (lC1 (lC1 (lC1 (lC1 (lC1 (lC1 (lC1 rfl))))))))))) rfl (by rw [up2_upr]; first | (rw [rt_fin (by omega) hvb2 (Or.inl rfl)]; exact congrArg (fun r => (K, upr I 330 r, L, R, n, s)) (cpy_up (f := cellC))) | (rw [rt_fin (by omega) hvb2 (Or.inr (Bool.eq_false_iff.mpr h126))]; exact congrArg (fun r => (K, upr I 330 r, L, R, n, s)) (cpy_up (f := cellC))))
                | succ rb ihb =>
                  intro k dx dy f hib hvb0 hvb1 hvb2
                  have hltb : k < (i / 100 + 2) := by omega
                  refine wp_iload10 (pc' := 120) rfl rfl ?_
                  refine wp_iload2 (pc' := 121) rfl rfl ?_
                  refine wp_icmpgeF (pc' := 124) rfl (nI_lt (by omega) (by omega)) rfl ?_
                  refine wp_iload9 (pc' := 126) rfl rfl ?_
                  first | refine wp_ifeqB (pc' := 129) rfl rfl ?_ ?_ | refine wp_ifeq (pc' := 129) rfl rfl ?_ ?_
                  · intro h126
                    refine wp_aload0 (pc' := 162) rfl rfl ?_
                    refine wp_getRF (pc' := 165) rfl rfl (by first | exact TK.k1 hT rfl | exact TK.kk hT rfl | exact TK.r hT rfl | assumption) (by first | exact TK.k1 hT rfl | exact TK.kk hT rfl | exact TK.r hT rfl | assumption) rfl ?_
                    refine wp_iload1 (pc' := 166) rfl rfl ?_
                    refine wp_iload8 (pc' := 168) rfl rfl ?_
                    refine wp_iast _ (pc' := 169) rfl (by first | exact TK.k1 hT rfl | exact TK.kk hT rfl | exact TK.r hT rfl | assumption) (by omega) (by with_reducible rfl) (by omega) (by first | decide | assumption | omega) rfl ?_
                    first | refine wp_iinc1 (w := nI 1) (pc' := 172) rfl rfl rfl (by with_reducible exact nI_add _ _) rfl ?_ | refine wp_iinc1 (w := nI 1) (pc' := 172) rfl rfl rfl rfl rfl ?_
                    refine wp_goto rfl ?_
                    exact WP.cg (ih (i + 1) _ _ _ _ _ _ _ _ _ (by omega) (by first | rfl | assumption) (by first | rfl | assumption) (by first | rfl | assumption) (by first | rfl | assumption) (by first | rfl | assumption) (by first | rfl | assumption) (by first | rfl | assumption) (by first | rfl | assumption) (by first | rfl | assumption)) (lC1 (lI1 (by rfl) (lC1 (lC1 (lC1 (lC1 (lC1 (lC1 (lC1 (lC1 (lC1 rfl))))))))))) rfl (by rw [up2_upr]; first | (rw [rt_fin (by omega) hvb2 (Or.inl rfl)]; exact congrArg (fun r => (K, upr I 330 r, L, R, n, s)) (cpy_up (f := cellC))) | (rw [rt_fin (by omega) hvb2 (Or.inr (Bool.eq_false_iff.mpr h126))]; exact congrArg (fun r => (K, upr I 330 r, L, R, n, s)) (cpy_up (f := cellC))))
                  · intro h126
                    refine wp_iload8 (pc' := 131) rfl rfl ?_
                    refine wp_iconst (v := nI 1) (pc' := 132) rfl rfl rfl ?_
                    refine wp_iconst (v := nI 5) (pc' := 133) rfl rfl rfl ?_
                    refine wp_iload5 (pc' := 135) rfl rfl ?_
                    refine wp_iload7 (pc' := 137) rfl rfl ?_
                    refine wp_iload10 (pc' := 139) rfl rfl ?_
                    first | refine wp_imulN (pc' := 140) rfl (by with_reducible rfl) (by with_reducible rfl) rfl ?_ | refine wp_imul (pc' := 140) rfl rfl ?_
                    first | refine wp_iaddN (pc' := 141) rfl (by with_reducible rfl) (by with_reducible rfl) rfl ?_ | refine wp_iadd (pc' := 141) rfl rfl ?_
                    first | refine wp_imulN (pc' := 142) rfl (by with_reducible rfl) (by with_reducible rfl) rfl ?_ | refine wp_imul (pc' := 142) rfl rfl ?_
                    refine wp_iload4 (pc' := 144) rfl rfl ?_
                    first | refine wp_iaddN (pc' := 145) rfl (by with_reducible rfl) (by with_reducible rfl) rfl ?_ | refine wp_iadd (pc' := 145) rfl rfl ?_
                    refine wp_iload6 (pc' := 147) rfl rfl ?_
                    refine wp_iload10 (pc' := 149) rfl rfl ?_
                    first | refine wp_imulN (pc' := 150) rfl (by with_reducible rfl) (by with_reducible rfl) rfl ?_ | refine wp_imul (pc' := 150) rfl rfl ?_
                    first | refine wp_iaddN (pc' := 151) rfl (by with_reducible rfl) (by with_reducible rfl) rfl ?_ | refine wp_iadd (pc' := 151) rfl rfl ?_
                    refine wp_ishl (pc' := 152) rfl rfl ?_
                    refine wp_ior (pc' := 153) rfl rfl ?_
                    refine wp_istore8 (pc' := 155) rfl (by first | rfl | assumption) rfl ?_
                    first | refine wp_iinc10 (w := nI 1) (pc' := 158) rfl rfl rfl (by with_reducible exact nI_add _ _) rfl ?_ | refine wp_iinc10 (w := nI 1) (pc' := 158) rfl rfl rfl rfl rfl ?_
                    refine wp_goto rfl ?_
                    exact WP.cg (ihb (k + 1) dx dy f (by omega) hvb0 hvb1 hvb2) (lC1 (lI1 (by first | with_reducible rfl | (rw [if_pos h126, if_pos h126, hvb0, hvb1]; rfl)) (lI1 (by first | with_reducible rfl | (rw [if_pos h126, if_pos h126, hvb0, hvb1]; rfl)) (lI1 (by first | with_reducible rfl | (rw [if_pos h126, if_pos h126, hvb0, hvb1]; rfl)) (lI1 (by first | with_reducible rfl | (rw [if_pos h126, if_pos h126, hvb0, hvb1]; rfl)) (lI1 (by first | with_reducible rfl | (rw [if_pos h126, if_pos h126, hvb0, hvb1]; rfl)) (lI1 (by first | with_reducible rfl | (rw [if_pos h126, if_pos h126, hvb0, hvb1]; rfl)) (lI1 (by first | with_reducible rfl | (rw [if_pos h126, if_pos h126, hvb0, hvb1]; rfl)) (lI1 (by first | with_reducible rfl | (rw [if_pos h126, if_pos h126, hvb0, hvb1]; rfl)) (lI1 (by first | with_reducible rfl | (rw [if_pos h126, if_pos h126, hvb0, hvb1]; rfl)) (lI1 (by first | with_reducible rfl | (rw [if_pos h126, if_pos h126, hvb0, hvb1]; rfl)) rfl))))))))))) rfl (by rfl)
              exact WP.cg (lp118 ((i / 100 + 2) - (0)) (0) _ _ (decide (isTk i)) (by omega) (by unfold rtC; first | exact (if_pos h41).symm | (rw [if_neg h41, if_pos h50]; done) | (rw [if_neg h41, if_neg h50]; done)) (by unfold dnC; first | exact (if_pos h61).symm | exact (if_neg h61).symm) rfl) (lC1 (lI1 (by first | with_reducible rfl | exact fl_t h88 h105 | exact fl_1 h88 | exact fl_2 h105 | exact rt_0) (lI1 (by first | with_reducible rfl | exact fl_t h88 h105 | exact fl_1 h88 | exact fl_2 h105 | exact rt_0) (lI1 (by first | with_reducible rfl | exact fl_t h88 h105 | exact fl_1 h88 | exact fl_2 h105 | exact rt_0) (lI1 (by first | with_reducible rfl | exact fl_t h88 h105 | exact fl_1 h88 | exact fl_2 h105 | exact rt_0) (lI1 (by first | with_reducible rfl | exact fl_t h88 h105 | exact fl_1 h88 | exact fl_2 h105 | exact rt_0) (lI1 (by first | with_reducible rfl | exact fl_t h88 h105 | exact fl_1 h88 | exact fl_2 h105 | exact rt_0) (lI1 (by first | with_reducible rfl | exact fl_t h88 h105 | exact fl_1 h88 | exact fl_2 h105 | exact rt_0) (lI1 (by first | with_reducible rfl | exact fl_t h88 h105 | exact fl_1 h88 | exact fl_2 h105 | exact rt_0) (lI1 (by first | with_reducible rfl | exact fl_t h88 h105 | exact fl_1 h88 | exact fl_2 h105 | exact rt_0) (lI1 (by first | with_reducible rfl | exact fl_t h88 h105 | exact fl_1 h88 | exact fl_2 h105 | exact rt_0) rfl))))))))))) rfl (by rfl)
  exact WP.cg (lp2 (400 - (0)) (0) _ _ _ _ _ _ _ _ _ (by omega) (by first | rfl | assumption) (by first | rfl | assumption) (by first | rfl | assumption) (by first | rfl | assumption) (by first | rfl | assumption) (by first | rfl | assumption) (by first | rfl | assumption) (by first | rfl | assumption) (by first | rfl | assumption)) (lC1 (lI1 (by rfl) (lC1 (lC1 (lC1 (lC1 (lC1 (lC1 (lC1 (lC1 (lC1 rfl))))))))))) rfl (by rw [cpy_0, upr_id])
/-- how many rows are wrong for some cells -/
def wrW (tv : Nat → Nat) (x : Int32) : Nat → Nat
  | 0 => 0
  | i + 1 => wrW tv x i + (if (if btI x (tv (2 * i)) = true then 1 else 0) = tv (2 * i + 1) then 0 else 1)
theorem wrW_s {tv : Nat → Nat} {x : Int32} {i : Nat} : wrW tv x (i + 1) = wrW tv x i + (if (if btI x (tv (2 * i)) = true then 1 else 0) = tv (2 * i + 1) then 0 else 1) := rfl
def wrR (tv : Nat → Nat) (T k : Nat) : Int32 := if cellC k = nI 0 then nI 100000000 else nI (wrW tv (cellC k) (T / 2))
theorem n1_if {p : Prop} [Decidable p] {v : Nat} (hv : v < 2) : (if p then nI 1 else nI 0) = nI v ↔ (if p then 1 else 0) = v := by
  by_cases h : p
  · rw [if_pos h, if_pos h, nI_eq (by decide) (by omega)]
  · rw [if_neg h, if_neg h, nI_eq (by decide) (by omega)]

theorem m_wrongRows {d : Nat} {K : Nat → Nat × Nat} {I : Nat → Nat → Int32} {L : Nat → Nat → Int64} {R : Nat → Nat → Option Nat} {n s : Nat} {Q : Lo → Lm → Prop} {T k : Nat} {tv : Nat → Nat} (hT : TK K R n) (he : I 318 11 = nI T) (htp : TpW (I 324) tv) (hr : trB 25 2 tv T T = true) (htk : ∀ k, k < 400 → I 330 k = cellC k) (hk : k < 400) (kk : Q (.inl (some (.int (wrR tv T k)))) (K, I, L, R, n, s)) : Ok (d + 1) 320 [.ref 318, .int (nI k)] (K, I, L, R, n, s) Q := by
  obtain ⟨-, -, hn⟩ := id hT
  have hT40 := trB_40 hr
  refine Ok.enter (F := F_320) (ls := [.ref 318, .int (nI k), lDead, lDead]) rfl rfl ?_
  refine wp_aload0 (pc' := 1) rfl rfl ?_
  refine wp_getRF (pc' := 4) rfl rfl (by first | exact TK.k1 hT rfl | exact TK.kk hT rfl | exact TK.r hT rfl | assumption) (by first | exact TK.k1 hT rfl | exact TK.kk hT rfl | exact TK.r hT rfl | assumption) rfl ?_
  refine wp_iload1 (pc' := 5) rfl rfl ?_
  refine wp_iald _ (pc' := 6) rfl (by first | exact TK.k1 hT rfl | exact TK.kk hT rfl | exact TK.r hT rfl | assumption) (by with_reducible rfl) (by omega) (by first | decide | assumption | omega) rfl ?_
  rw [htk k (by omega)]
  first | refine wp_ifneB (pc' := 9) rfl rfl ?_ ?_ | refine wp_ifne (pc' := 9) rfl rfl ?_ ?_
  · intro h6
    refine wp_iconst (v := nI 0) (pc' := 13) rfl rfl rfl ?_
    refine wp_istore2 (pc' := 14) rfl (by first | rfl | assumption) rfl ?_
    refine wp_iconst (v := nI 0) (pc' := 15) rfl rfl rfl ?_
    refine wp_istore3 (pc' := 16) rfl (by first | rfl | assumption) rfl ?_
    have lp16 : ∀ r (i : Nat), i + r = (T / 2) → WP d F_320 16 [.ref 318, .int (nI k), .int (nI (wrW tv (cellC k) i)), .int (nI (2 * i))] [] (K, I, L, R, n, s) Q := by
      intro r; induction r with
      | zero =>
        intro i hi 
        have hi2 : i = (T / 2) := by omega
        subst hi2
        refine wp_iload3 (pc' := 17) rfl rfl ?_
        refine wp_aload0 (pc' := 18) rfl rfl ?_
        refine wp_getI (pc' := 21) rfl rfl (by first | exact TK.k1 hT rfl | exact TK.kk hT rfl | exact TK.r hT rfl | assumption) rfl ?_
        rw [he]
        refine wp_icmpgeT rfl (nI_nlt (by omega) (by omega)) ?_
        refine wp_iload2 (pc' := 65) rfl rfl ?_
        refine wp_iret rfl rfl rfl ?_
        exact Qv kk (by unfold wrR; rw [if_neg h6]) rfl
      | succ r ih =>
        intro i hi 
        have hlt : i < (T / 2) := by omega
        refine wp_iload3 (pc' := 17) rfl rfl ?_
        refine wp_aload0 (pc' := 18) rfl rfl ?_
        refine wp_getI (pc' := 21) rfl rfl (by first | exact TK.k1 hT rfl | exact TK.kk hT rfl | exact TK.r hT rfl | assumption) rfl ?_
        rw [he]
        refine wp_icmpgeF (pc' := 24) rfl (nI_lt (by omega) (by omega)) rfl ?_
        have hlt2 : 2 * i < T := by omega
        have q1 := trB_lt hr (2 * i) (by omega)
        have q2 := trB_lt hr (2 * i + 1) (by omega)
        rw [if_pos (by omega)] at q1
        rw [if_neg (by omega)] at q2
        refine wp_iload2 (pc' := 25) rfl rfl ?_
        refine wp_aload0 (pc' := 26) rfl rfl ?_
        refine wp_getRF (pc' := 29) rfl rfl (by first | exact TK.k1 hT rfl | exact TK.kk hT rfl | exact TK.r hT rfl | assumption) (by first | exact TK.k1 hT rfl | exact TK.kk hT rfl | exact TK.r hT rfl | assumption) rfl ?_
        refine wp_iload1 (pc' := 30) rfl rfl ?_
        refine wp_iald _ (pc' := 31) rfl (by first | exact TK.k1 hT rfl | exact TK.kk hT rfl | exact TK.r hT rfl | assumption) (by with_reducible rfl) (by omega) (by first | decide | assumption | omega) rfl ?_
        rw [htk k (by omega)]
        refine wp_aload0 (pc' := 32) rfl rfl ?_
        refine wp_getRF (pc' := 35) rfl rfl (by first | exact TK.k1 hT rfl | exact TK.kk hT rfl | exact TK.r hT rfl | assumption) (by first | exact TK.k1 hT rfl | exact TK.kk hT rfl | exact TK.r hT rfl | assumption) rfl ?_
        refine wp_iload3 (pc' := 36) rfl rfl ?_
        first | refine wp_bald _ (pc' := 37) rfl (by first | exact TK.k1 hT rfl | exact TK.kk hT rfl | exact TK.r hT rfl | assumption) (by with_reducible rfl) (by omega) (by first | decide | assumption | omega) rfl ?_ | refine wp_zald _ (pc' := 37) rfl (by first | exact TK.k1 hT rfl | exact TK.kk hT rfl | exact TK.r hT rfl | assumption) (by with_reducible rfl) (by omega) (by first | decide | assumption | omega) rfl ?_
        rw [(htp _ (by omega)).1, sb_lo (by omega)]
        refine wp_ishr (pc' := 38) rfl rfl ?_
        refine wp_iconst (v := nI 1) (pc' := 39) rfl rfl rfl ?_
        refine wp_iand (pc' := 40) rfl rfl ?_
        rw [and1_bt (by omega)]
        refine wp_aload0 (pc' := 41) rfl rfl ?_
        refine wp_getRF (pc' := 44) rfl rfl (by first | exact TK.k1 hT rfl | exact TK.kk hT rfl | exact TK.r hT rfl | assumption) (by first | exact TK.k1 hT rfl | exact TK.kk hT rfl | exact TK.r hT rfl | assumption) rfl ?_
        refine wp_iload3 (pc' := 45) rfl rfl ?_
        refine wp_iconst (v := nI 1) (pc' := 46) rfl rfl rfl ?_
        first | refine wp_iaddN (pc' := 47) rfl (by with_reducible rfl) (by with_reducible rfl) rfl ?_ | refine wp_iadd (pc' := 47) rfl rfl ?_
        first | refine wp_bald _ (pc' := 48) rfl (by first | exact TK.k1 hT rfl | exact TK.kk hT rfl | exact TK.r hT rfl | assumption) (by with_reducible rfl) (by omega) (by first | decide | assumption | omega) rfl ?_ | refine wp_zald _ (pc' := 48) rfl (by first | exact TK.k1 hT rfl | exact TK.kk hT rfl | exact TK.r hT rfl | assumption) (by with_reducible rfl) (by omega) (by first | decide | assumption | omega) rfl ?_
        rw [(htp _ (by omega)).1, sb_lo (by omega)]
        refine wp_icmpne (pc' := 51) rfl rfl ?_ ?_
        · intro h48
          refine wp_iconst (v := nI 1) (pc' := 56) rfl rfl rfl ?_
          first | refine wp_iaddN (pc' := 57) rfl (by with_reducible rfl) (by with_reducible rfl) rfl ?_ | refine wp_iadd (pc' := 57) rfl rfl ?_
          refine wp_istore2 (pc' := 58) rfl (by first | rfl | assumption) rfl ?_
          first | refine wp_iinc3 (w := nI 2) (pc' := 61) rfl rfl rfl (by with_reducible exact nI_add _ _) rfl ?_ | refine wp_iinc3 (w := nI 2) (pc' := 61) rfl rfl rfl rfl rfl ?_
          refine wp_goto rfl ?_
          exact WP.cg (ih (i + 1) (by omega)) (lC1 (lI1 (by first | with_reducible rfl | exact congrArg nI (Nat.mul_succ 2 i).symm | (rw [wrW_s, if_pos ((n1_if q2).mp h48)]; done) | (rw [wrW_s, if_neg (fun q => h48 ((n1_if q2).mpr q))]; done)) (lI1 (by first | with_reducible rfl | exact congrArg nI (Nat.mul_succ 2 i).symm | (rw [wrW_s, if_pos ((n1_if q2).mp h48)]; done) | (rw [wrW_s, if_neg (fun q => h48 ((n1_if q2).mpr q))]; done)) (lI1 (by first | with_reducible rfl | exact congrArg nI (Nat.mul_succ 2 i).symm | (rw [wrW_s, if_pos ((n1_if q2).mp h48)]; done) | (rw [wrW_s, if_neg (fun q => h48 ((n1_if q2).mpr q))]; done)) rfl)))) rfl (by rfl)
        · intro h48
          refine wp_iconst (v := nI 0) (pc' := 52) rfl rfl rfl ?_
          refine wp_goto rfl ?_
          first | refine wp_iaddN (pc' := 57) rfl (by with_reducible rfl) (by with_reducible rfl) rfl ?_ | refine wp_iadd (pc' := 57) rfl rfl ?_
          refine wp_istore2 (pc' := 58) rfl (by first | rfl | assumption) rfl ?_
          first | refine wp_iinc3 (w := nI 2) (pc' := 61) rfl rfl rfl (by with_reducible exact nI_add _ _) rfl ?_ | refine wp_iinc3 (w := nI 2) (pc' := 61) rfl rfl rfl rfl rfl ?_
          refine wp_goto rfl ?_
          exact WP.cg (ih (i + 1) (by omega)) (lC1 (lI1 (by first | with_reducible rfl | exact congrArg nI (Nat.mul_succ 2 i).symm | (rw [wrW_s, if_pos ((n1_if q2).mp h48)]; done) | (rw [wrW_s, if_neg (fun q => h48 ((n1_if q2).mpr q))]; done)) (lI1 (by first | with_reducible rfl | exact congrArg nI (Nat.mul_succ 2 i).symm | (rw [wrW_s, if_pos ((n1_if q2).mp h48)]; done) | (rw [wrW_s, if_neg (fun q => h48 ((n1_if q2).mpr q))]; done)) (lI1 (by first | with_reducible rfl | exact congrArg nI (Nat.mul_succ 2 i).symm | (rw [wrW_s, if_pos ((n1_if q2).mp h48)]; done) | (rw [wrW_s, if_neg (fun q => h48 ((n1_if q2).mpr q))]; done)) rfl)))) rfl (by rfl)
    exact WP.cg (lp16 ((T / 2) - (0)) (0) (by omega)) (lC1 (lI1 (by rfl) (lI1 (by rfl) (lI1 (by rfl) rfl)))) rfl (by rfl)
  · intro h6
    refine wp_pool (v := .int (nI 100000000)) (pc' := 11) rfl rfl rfl rfl rfl ?_
    refine wp_iret rfl rfl rfl ?_
    exact Qv kk (by unfold wrR; rw [if_pos h6]) rfl
/-- how many of the first places have p -/
def cnP (p : Nat → Prop) [∀ k, Decidable (p k)] (i : Nat) : Int32 := forN (fun k f => f + (if p k then nI 1 else nI 0)) (nI 0) i
theorem cnP_s {p : Nat → Prop} [∀ k, Decidable (p k)] {i : Nat} : cnP p (i + 1) = cnP p i + (if p i then nI 1 else nI 0) := rfl

theorem m_manyT {d : Nat} {K : Nat → Nat × Nat} {I : Nat → Nat → Int32} {L : Nat → Nat → Int64} {R : Nat → Nat → Option Nat} {n s : Nat} {Q : Lo → Lm → Prop} {T : Nat} {tv : Nat → Nat} (hT : TK K R n) (he : I 318 11 = nI T) (htp : TpW (I 324) tv) (hr : trB 25 2 tv T T = true) (htk : ∀ k, k < 400 → I 330 k = cellC k) (kk : Q (.inl (some (.int (cnP (fun k => wrR tv T k < nI 2) 400)))) (K, I, L, R, n, s)) : Ok (d + 2) 319 [.ref 318, .int (-1)] (K, I, L, R, n, s) Q := by
  obtain ⟨-, -, hn⟩ := id hT
  refine Ok.enter (F := F_319) (ls := [.ref 318, .int (-1), lDead, lDead]) rfl rfl ?_
  refine wp_iconst (v := nI 0) (pc' := 1) rfl rfl rfl ?_
  refine wp_istore2 (pc' := 2) rfl (by first | rfl | assumption) rfl ?_
  refine wp_iconst (v := nI 0) (pc' := 3) rfl rfl rfl ?_
  refine wp_istore3 (pc' := 4) rfl (by first | rfl | assumption) rfl ?_
  have lp4 : ∀ r (i : Nat), i + r = 400 → WP (d + 1) F_319 4 [.ref 318, .int (-1), .int (cnP (fun k => wrR tv T k < nI 2) i), .int (nI i)] [] (K, I, L, R, n, s) Q := by
    intro r; induction r with
    | zero =>
      intro i hi 
      have hi2 : i = 400 := by omega
      subst hi2
      refine wp_iload3 (pc' := 5) rfl rfl ?_
      refine wp_sipush (v := nI 400) (pc' := 8) rfl rfl rfl ?_
      refine wp_icmpgeT rfl (nI_nlt (by omega) (by omega)) ?_
      refine wp_iload2 (pc' := 53) rfl rfl ?_
      refine wp_iret rfl rfl rfl ?_
      exact kk
    | succ r ih =>
      intro i hi 
      have hlt : i < 400 := by omega
      refine wp_iload3 (pc' := 5) rfl rfl ?_
      refine wp_sipush (v := nI 400) (pc' := 8) rfl rfl rfl ?_
      refine wp_icmpgeF (pc' := 11) rfl (nI_lt (by omega) (by omega)) rfl ?_
      refine wp_iload2 (pc' := 12) rfl rfl ?_
      refine wp_aload0 (pc' := 13) rfl rfl ?_
      refine wp_iload3 (pc' := 14) rfl rfl ?_
      refine wp_callV2 (pc' := 17) rfl rfl rfl rfl rfl (by first | exact TK.k1 hT rfl | exact TK.kk hT rfl | exact TK.r hT rfl | assumption) rfl rfl ?_
      refine m_wrongRows hT he htp hr htk (by omega) ?_
      refine Cont.v ?_
      refine wp_iconst (v := nI 2) (pc' := 18) rfl rfl rfl ?_
      refine wp_icmpge (pc' := 21) rfl rfl ?_ ?_
      · intro h18
        refine wp_iconst (v := nI 0) (pc' := 44) rfl rfl rfl ?_
        first | refine wp_iaddN (pc' := 45) rfl (by with_reducible rfl) (by with_reducible rfl) rfl ?_ | refine wp_iadd (pc' := 45) rfl rfl ?_
        refine wp_istore2 (pc' := 46) rfl (by first | rfl | assumption) rfl ?_
        first | refine wp_iinc3 (w := nI 1) (pc' := 49) rfl rfl rfl (by with_reducible exact nI_add _ _) rfl ?_ | refine wp_iinc3 (w := nI 1) (pc' := 49) rfl rfl rfl rfl rfl ?_
        refine wp_goto rfl ?_
        exact WP.cg (ih (i + 1) (by omega)) (lC1 (lI1 (by first | with_reducible rfl | (rw [cnP_s, if_pos h18]; done) | (rw [cnP_s, if_neg h18]; done)) (lI1 (by first | with_reducible rfl | (rw [cnP_s, if_pos h18]; done) | (rw [cnP_s, if_neg h18]; done)) (lI1 (by first | with_reducible rfl | (rw [cnP_s, if_pos h18]; done) | (rw [cnP_s, if_neg h18]; done)) rfl)))) rfl (by rfl)
      · intro h18
        refine wp_iload1 (pc' := 22) rfl rfl ?_
        refine wp_iconst (v := (-1)) (pc' := 23) rfl rfl rfl ?_
        refine wp_icmpeqT rfl rfl ?_
        refine wp_iconst (v := nI 1) (pc' := 40) rfl rfl rfl ?_
        refine wp_goto rfl ?_
        first | refine wp_iaddN (pc' := 45) rfl (by with_reducible rfl) (by with_reducible rfl) rfl ?_ | refine wp_iadd (pc' := 45) rfl rfl ?_
        refine wp_istore2 (pc' := 46) rfl (by first | rfl | assumption) rfl ?_
        first | refine wp_iinc3 (w := nI 1) (pc' := 49) rfl rfl rfl (by with_reducible exact nI_add _ _) rfl ?_ | refine wp_iinc3 (w := nI 1) (pc' := 49) rfl rfl rfl rfl rfl ?_
        refine wp_goto rfl ?_
        exact WP.cg (ih (i + 1) (by omega)) (lC1 (lI1 (by first | with_reducible rfl | (rw [cnP_s, if_pos h18]; done) | (rw [cnP_s, if_neg h18]; done)) (lI1 (by first | with_reducible rfl | (rw [cnP_s, if_pos h18]; done) | (rw [cnP_s, if_neg h18]; done)) (lI1 (by first | with_reducible rfl | (rw [cnP_s, if_pos h18]; done) | (rw [cnP_s, if_neg h18]; done)) rfl)))) rfl (by rfl)
  exact WP.cg (lp4 (400 - (0)) (0) (by omega)) (lC1 (lI1 (by rfl) (lI1 (by rfl) (lI1 (by rfl) rfl)))) rfl (by rfl)
theorem m_manyTC {d : Nat} {K : Nat → Nat × Nat} {I : Nat → Nat → Int32} {L : Nat → Nat → Int64} {R : Nat → Nat → Option Nat} {n s : Nat} {Q : Lo → Lm → Prop} {T c : Nat} {tv : Nat → Nat} (hT : TK K R n) (he : I 318 11 = nI T) (htp : TpW (I 324) tv) (hr : trB 25 2 tv T T = true) (htk : ∀ k, k < 400 → I 330 k = cellC k) (hc : c < 25) (kk : Q (.inl (some (.int (cnP (fun k => wrR tv T k < nI 2 ∧ hasP (cellC k) c) 400)))) (K, I, L, R, n, s)) : Ok (d + 2) 319 [.ref 318, .int (nI c)] (K, I, L, R, n, s) Q := by
  obtain ⟨-, -, hn⟩ := id hT
  refine Ok.enter (F := F_319) (ls := [.ref 318, .int (nI c), lDead, lDead]) rfl rfl ?_
  refine wp_iconst (v := nI 0) (pc' := 1) rfl rfl rfl ?_
  refine wp_istore2 (pc' := 2) rfl (by first | rfl | assumption) rfl ?_
  refine wp_iconst (v := nI 0) (pc' := 3) rfl rfl rfl ?_
  refine wp_istore3 (pc' := 4) rfl (by first | rfl | assumption) rfl ?_
  have lp4 : ∀ r (i : Nat), i + r = 400 → WP (d + 1) F_319 4 [.ref 318, .int (nI c), .int (cnP (fun k => wrR tv T k < nI 2 ∧ hasP (cellC k) c) i), .int (nI i)] [] (K, I, L, R, n, s) Q := by
    intro r; induction r with
    | zero =>
      intro i hi 
      have hi2 : i = 400 := by omega
      subst hi2
      refine wp_iload3 (pc' := 5) rfl rfl ?_
      refine wp_sipush (v := nI 400) (pc' := 8) rfl rfl rfl ?_
      refine wp_icmpgeT rfl (nI_nlt (by omega) (by omega)) ?_
      refine wp_iload2 (pc' := 53) rfl rfl ?_
      refine wp_iret rfl rfl rfl ?_
      exact kk
    | succ r ih =>
      intro i hi 
      have hlt : i < 400 := by omega
      refine wp_iload3 (pc' := 5) rfl rfl ?_
      refine wp_sipush (v := nI 400) (pc' := 8) rfl rfl rfl ?_
      refine wp_icmpgeF (pc' := 11) rfl (nI_lt (by omega) (by omega)) rfl ?_
      refine wp_iload2 (pc' := 12) rfl rfl ?_
      refine wp_aload0 (pc' := 13) rfl rfl ?_
      refine wp_iload3 (pc' := 14) rfl rfl ?_
      refine wp_callV2 (pc' := 17) rfl rfl rfl rfl rfl (by first | exact TK.k1 hT rfl | exact TK.kk hT rfl | exact TK.r hT rfl | assumption) rfl rfl ?_
      refine m_wrongRows hT he htp hr htk (by omega) ?_
      refine Cont.v ?_
      refine wp_iconst (v := nI 2) (pc' := 18) rfl rfl rfl ?_
      refine wp_icmpge (pc' := 21) rfl rfl ?_ ?_
      · intro h18
        refine wp_iconst (v := nI 0) (pc' := 44) rfl rfl rfl ?_
        first | refine wp_iaddN (pc' := 45) rfl (by with_reducible rfl) (by with_reducible rfl) rfl ?_ | refine wp_iadd (pc' := 45) rfl rfl ?_
        refine wp_istore2 (pc' := 46) rfl (by first | rfl | assumption) rfl ?_
        first | refine wp_iinc3 (w := nI 1) (pc' := 49) rfl rfl rfl (by with_reducible exact nI_add _ _) rfl ?_ | refine wp_iinc3 (w := nI 1) (pc' := 49) rfl rfl rfl rfl rfl ?_
        refine wp_goto rfl ?_
        exact WP.cg (ih (i + 1) (by omega)) (lC1 (lI1 (by first | with_reducible rfl | (rw [cnP_s, if_pos (And.intro h18 h36)]; done) | (rw [cnP_s, if_neg (fun q => h18 q.1)]; done) | (rw [cnP_s, if_neg (fun q => h36 q.2)]; done)) (lI1 (by first | with_reducible rfl | (rw [cnP_s, if_pos (And.intro h18 h36)]; done) | (rw [cnP_s, if_neg (fun q => h18 q.1)]; done) | (rw [cnP_s, if_neg (fun q => h36 q.2)]; done)) (lI1 (by first | with_reducible rfl | (rw [cnP_s, if_pos (And.intro h18 h36)]; done) | (rw [cnP_s, if_neg (fun q => h18 q.1)]; done) | (rw [cnP_s, if_neg (fun q => h36 q.2)]; done)) rfl)))) rfl (by rfl)
      · intro h18
        refine wp_iload1 (pc' := 22) rfl rfl ?_
        refine wp_iconst (v := (-1)) (pc' := 23) rfl rfl rfl ?_
        refine wp_icmpeqF (pc' := 26) rfl (nI_nm1 (by omega)) rfl ?_
        refine wp_aload0 (pc' := 27) rfl rfl ?_
        refine wp_getRF (pc' := 30) rfl rfl (by first | exact TK.k1 hT rfl | exact TK.kk hT rfl | exact TK.r hT rfl | assumption) (by first | exact TK.k1 hT rfl | exact TK.kk hT rfl | exact TK.r hT rfl | assumption) rfl ?_
        refine wp_iload3 (pc' := 31) rfl rfl ?_
        refine wp_iald _ (pc' := 32) rfl (by first | exact TK.k1 hT rfl | exact TK.kk hT rfl | exact TK.r hT rfl | assumption) (by with_reducible rfl) (by omega) (by first | decide | assumption | omega) rfl ?_
        rw [htk _ (by omega)]
        refine wp_iload1 (pc' := 33) rfl rfl ?_
        refine wp_callS2 (pc' := 36) rfl rfl rfl rfl rfl rfl ?_
        refine m_has ?_
        refine Cont.v ?_
        first | refine wp_ifeqB (pc' := 39) rfl rfl ?_ ?_ | refine wp_ifeq (pc' := 39) rfl rfl ?_ ?_
        · intro h36
          refine wp_iconst (v := nI 0) (pc' := 44) rfl rfl rfl ?_
          first | refine wp_iaddN (pc' := 45) rfl (by with_reducible rfl) (by with_reducible rfl) rfl ?_ | refine wp_iadd (pc' := 45) rfl rfl ?_
          refine wp_istore2 (pc' := 46) rfl (by first | rfl | assumption) rfl ?_
          first | refine wp_iinc3 (w := nI 1) (pc' := 49) rfl rfl rfl (by with_reducible exact nI_add _ _) rfl ?_ | refine wp_iinc3 (w := nI 1) (pc' := 49) rfl rfl rfl rfl rfl ?_
          refine wp_goto rfl ?_
          exact WP.cg (ih (i + 1) (by omega)) (lC1 (lI1 (by first | with_reducible rfl | (rw [cnP_s, if_pos (And.intro h18 h36)]; done) | (rw [cnP_s, if_neg (fun q => h18 q.1)]; done) | (rw [cnP_s, if_neg (fun q => h36 q.2)]; done)) (lI1 (by first | with_reducible rfl | (rw [cnP_s, if_pos (And.intro h18 h36)]; done) | (rw [cnP_s, if_neg (fun q => h18 q.1)]; done) | (rw [cnP_s, if_neg (fun q => h36 q.2)]; done)) (lI1 (by first | with_reducible rfl | (rw [cnP_s, if_pos (And.intro h18 h36)]; done) | (rw [cnP_s, if_neg (fun q => h18 q.1)]; done) | (rw [cnP_s, if_neg (fun q => h36 q.2)]; done)) rfl)))) rfl (by rfl)
        · intro h36
          refine wp_iconst (v := nI 1) (pc' := 40) rfl rfl rfl ?_
          refine wp_goto rfl ?_
          first | refine wp_iaddN (pc' := 45) rfl (by with_reducible rfl) (by with_reducible rfl) rfl ?_ | refine wp_iadd (pc' := 45) rfl rfl ?_
          refine wp_istore2 (pc' := 46) rfl (by first | rfl | assumption) rfl ?_
          first | refine wp_iinc3 (w := nI 1) (pc' := 49) rfl rfl rfl (by with_reducible exact nI_add _ _) rfl ?_ | refine wp_iinc3 (w := nI 1) (pc' := 49) rfl rfl rfl rfl rfl ?_
          refine wp_goto rfl ?_
          exact WP.cg (ih (i + 1) (by omega)) (lC1 (lI1 (by first | with_reducible rfl | (rw [cnP_s, if_pos (And.intro h18 h36)]; done) | (rw [cnP_s, if_neg (fun q => h18 q.1)]; done) | (rw [cnP_s, if_neg (fun q => h36 q.2)]; done)) (lI1 (by first | with_reducible rfl | (rw [cnP_s, if_pos (And.intro h18 h36)]; done) | (rw [cnP_s, if_neg (fun q => h18 q.1)]; done) | (rw [cnP_s, if_neg (fun q => h36 q.2)]; done)) (lI1 (by first | with_reducible rfl | (rw [cnP_s, if_pos (And.intro h18 h36)]; done) | (rw [cnP_s, if_neg (fun q => h18 q.1)]; done) | (rw [cnP_s, if_neg (fun q => h36 q.2)]; done)) rfl)))) rfl (by rfl)
  exact WP.cg (lp4 (400 - (0)) (0) (by omega)) (lC1 (lI1 (by rfl) (lI1 (by rfl) (lI1 (by rfl) rfl)))) rfl (by rfl)
def lkU (w : Nat → Int32) (j : Nat) (p : Int32 × Int32) : Int32 × Int32 := (if w j < p.2 then nI j else p.1, jmin p.2 (w j))
/-- the first place of the least, below a start -/
def lkG (w : Nat → Int32) (s : Int32) (i : Nat) : Int32 × Int32 := forN (fun j p => lkU w j p) (-1, s) i
theorem lkG_s {w : Nat → Int32} {s : Int32} {i : Nat} : lkG w s (i + 1) = lkU w i (lkG w s i) := rfl

theorem m_trunks {d : Nat} {K : Nat → Nat × Nat} {I : Nat → Nat → Int32} {L : Nat → Nat → Int64} {R : Nat → Nat → Option Nat} {n s : Nat} {Q : Lo → Lm → Prop} {T : Nat} {tv : Nat → Nat} (hT : TK K R n) (h9 : I 318 9 = nI T) (hT4 : T ≤ 400) (htp : TpW (I 324) tv) (hr : trB 25 2 tv T T = true) (kk : ∀ J, UsJ 0 I J → Q (.inl (some (.int (cnP (fun k => wrR tv T k < nI 2) 400)))) (K, J, L, R, n, s)) : Ok (d + 4) 316 [.ref 318] (K, I, L, R, n, s) Q := by
  obtain ⟨-, -, hn⟩ := id hT
  refine Ok.enter (F := F_316) (ls := [.ref 318]) rfl rfl ?_
  refine wp_aload0 (pc' := 1) rfl rfl ?_
  refine wp_callV1 (pc' := 4) rfl rfl rfl rfl rfl (by first | exact TK.k1 hT rfl | exact TK.kk hT rfl | exact TK.r hT rfl | assumption) rfl rfl ?_
  refine m_usesN hT h9 (fun N hN => ?_)
  have htpN : TpW (N 324) tv := by rw [hN.1 324 (by decide)]; exact htp
  refine Cont.u ?_
  refine wp_aload0 (pc' := 5) rfl rfl ?_
  refine wp_aload0 (pc' := 6) rfl rfl ?_
  refine wp_callV1 (pc' := 9) rfl rfl rfl rfl rfl (by first | exact TK.k1 hT rfl | exact TK.kk hT rfl | exact TK.r hT rfl | assumption) rfl rfl ?_
  refine m_isRows hT hN.2.2.2.2.1 hT4 htpN ?_
  rw [if_pos hr]
  refine Cont.v ?_
  refine wp_ifneT rfl (by decide) ?_
  refine wp_iconst (v := nI 0) (pc' := 17) rfl rfl rfl ?_
  refine wp_iconst (v := nI 1) (pc' := 18) rfl rfl rfl ?_
  refine wp_callV3 (pc' := 21) rfl rfl rfl rfl rfl (by first | exact TK.k1 hT rfl | exact TK.kk hT rfl | exact TK.r hT rfl | assumption) rfl rfl ?_
  refine m_tfN hT ?_
  refine Cont.v ?_
  refine wp_ifeqT rfl rfl ?_
  refine wp_aload0 (pc' := 27) rfl rfl ?_
  refine wp_callV1 (pc' := 30) rfl rfl rfl rfl rfl (by first | exact TK.k1 hT rfl | exact TK.kk hT rfl | exact TK.r hT rfl | assumption) rfl rfl ?_
  refine m_laysTrunks hT ?_
  obtain ⟨M, hM⟩ : ∃ M, M = upr N 330 (cpy 400 cellC (N 330)) := ⟨_, rfl⟩
  rw [← hM]
  have hMa : ∀ a, a ≠ 330 → M a = N a := fun a ha => by rw [hM]; exact upr_ne ha
  have hMe : M 318 11 = nI T := by rw [hMa 318 (by decide)]; exact hN.2.2.2.2.1
  have hMt : TpW (M 324) tv := by rw [hMa 324 (by decide)]; exact htpN
  have hMk : ∀ k, k < 400 → M 330 k = cellC k := fun k hk => by rw [hM, upr_same]; exact cpy_lt hk
  have hUJ : UsJ 0 I M := us_mk hN (fun a ha => hMa a (by omega))
  refine Cont.u ?_
  refine wp_aload0 (pc' := 31) rfl rfl ?_
  refine wp_iconst (v := (-1)) (pc' := 32) rfl rfl rfl ?_
  refine wp_callV2 (pc' := 35) rfl rfl rfl rfl rfl (by first | exact TK.k1 hT rfl | exact TK.kk hT rfl | exact TK.r hT rfl | assumption) rfl rfl ?_
  refine m_manyT hT hMe hMt hr hMk ?_
  refine Cont.v ?_
  refine wp_iret rfl rfl rfl ?_
  exact kk M hUJ
theorem m_likely {d : Nat} {K : Nat → Nat × Nat} {I : Nat → Nat → Int32} {L : Nat → Nat → Int64} {R : Nat → Nat → Option Nat} {n s : Nat} {Q : Lo → Lm → Prop} {T : Nat} {tv : Nat → Nat} (hT : TK K R n) (h9 : I 318 9 = nI T) (hT4 : T ≤ 400) (htp : TpW (I 324) tv) (hr : trB 25 2 tv T T = true) (kk : ∀ J, UsJ 0 I J → Q (.inl (some (.int ((lkG (wrR tv T) (nI 2) 400).1)))) (K, J, L, R, n, s)) : Ok (d + 4) 321 [.ref 318] (K, I, L, R, n, s) Q := by
  obtain ⟨-, -, hn⟩ := id hT
  refine Ok.enter (F := F_321) (ls := [.ref 318, lDead, lDead, lDead, lDead]) rfl rfl ?_
  refine wp_aload0 (pc' := 1) rfl rfl ?_
  refine wp_callV1 (pc' := 4) rfl rfl rfl rfl rfl (by first | exact TK.k1 hT rfl | exact TK.kk hT rfl | exact TK.r hT rfl | assumption) rfl rfl ?_
  refine m_usesN hT h9 (fun N hN => ?_)
  have htpN : TpW (N 324) tv := by rw [hN.1 324 (by decide)]; exact htp
  refine Cont.u ?_
  refine wp_aload0 (pc' := 5) rfl rfl ?_
  refine wp_aload0 (pc' := 6) rfl rfl ?_
  refine wp_callV1 (pc' := 9) rfl rfl rfl rfl rfl (by first | exact TK.k1 hT rfl | exact TK.kk hT rfl | exact TK.r hT rfl | assumption) rfl rfl ?_
  refine m_isRows hT hN.2.2.2.2.1 hT4 htpN ?_
  rw [if_pos hr]
  refine Cont.v ?_
  refine wp_ifneT rfl (by decide) ?_
  refine wp_iconst (v := nI 0) (pc' := 17) rfl rfl rfl ?_
  refine wp_iconst (v := nI 1) (pc' := 18) rfl rfl rfl ?_
  refine wp_callV3 (pc' := 21) rfl rfl rfl rfl rfl (by first | exact TK.k1 hT rfl | exact TK.kk hT rfl | exact TK.r hT rfl | assumption) rfl rfl ?_
  refine m_tfN hT ?_
  refine Cont.v ?_
  refine wp_ifeqT rfl rfl ?_
  refine wp_aload0 (pc' := 27) rfl rfl ?_
  refine wp_callV1 (pc' := 30) rfl rfl rfl rfl rfl (by first | exact TK.k1 hT rfl | exact TK.kk hT rfl | exact TK.r hT rfl | assumption) rfl rfl ?_
  refine m_laysTrunks hT ?_
  obtain ⟨M, hM⟩ : ∃ M, M = upr N 330 (cpy 400 cellC (N 330)) := ⟨_, rfl⟩
  rw [← hM]
  have hMa : ∀ a, a ≠ 330 → M a = N a := fun a ha => by rw [hM]; exact upr_ne ha
  have hMe : M 318 11 = nI T := by rw [hMa 318 (by decide)]; exact hN.2.2.2.2.1
  have hMt : TpW (M 324) tv := by rw [hMa 324 (by decide)]; exact htpN
  have hMk : ∀ k, k < 400 → M 330 k = cellC k := fun k hk => by rw [hM, upr_same]; exact cpy_lt hk
  have hUJ : UsJ 0 I M := us_mk hN (fun a ha => hMa a (by omega))
  refine Cont.u ?_
  refine wp_iconst (v := (-1)) (pc' := 31) rfl rfl rfl ?_
  refine wp_istore1 (pc' := 32) rfl (by first | rfl | assumption) rfl ?_
  refine wp_iconst (v := nI 2) (pc' := 33) rfl rfl rfl ?_
  refine wp_istore2 (pc' := 34) rfl (by first | rfl | assumption) rfl ?_
  refine wp_iconst (v := nI 0) (pc' := 35) rfl rfl rfl ?_
  refine wp_istore3 (pc' := 36) rfl (by first | rfl | assumption) rfl ?_
  have lp36 : ∀ r (i : Nat) (v4 : Value), i + r = 400 → isL v4 = false → WP (d + 3) F_321 36 [.ref 318, .int (lkG (wrR tv T) (nI 2) i).1, .int (lkG (wrR tv T) (nI 2) i).2, .int (nI i), v4] [] (K, M, L, R, n, s) Q := by
    intro r; induction r with
    | zero =>
      intro i v4 hi hv0
      have hi2 : i = 400 := by omega
      subst hi2
      refine wp_iload3 (pc' := 37) rfl rfl ?_
      refine wp_sipush (v := nI 400) (pc' := 40) rfl rfl rfl ?_
      refine wp_icmpgeT rfl (nI_nlt (by omega) (by omega)) ?_
      refine wp_iload1 (pc' := 76) rfl rfl ?_
      refine wp_iret rfl rfl rfl ?_
      exact kk M hUJ
    | succ r ih =>
      intro i v4 hi hv0
      have hlt : i < 400 := by omega
      refine wp_iload3 (pc' := 37) rfl rfl ?_
      refine wp_sipush (v := nI 400) (pc' := 40) rfl rfl rfl ?_
      refine wp_icmpgeF (pc' := 43) rfl (nI_lt (by omega) (by omega)) rfl ?_
      refine wp_aload0 (pc' := 44) rfl rfl ?_
      refine wp_iload3 (pc' := 45) rfl rfl ?_
      refine wp_callV2 (pc' := 48) rfl rfl rfl rfl rfl (by first | exact TK.k1 hT rfl | exact TK.kk hT rfl | exact TK.r hT rfl | assumption) rfl rfl ?_
      refine m_wrongRows hT hMe hMt hr hMk (by omega) ?_
      refine Cont.v ?_
      refine wp_istore4 (pc' := 50) rfl (by first | rfl | assumption) rfl ?_
      refine wp_iload4 (pc' := 52) rfl rfl ?_
      refine wp_iload2 (pc' := 53) rfl rfl ?_
      refine wp_icmpge (pc' := 56) rfl rfl ?_ ?_
      · intro h53
        refine wp_iload1 (pc' := 61) rfl rfl ?_
        refine wp_istore1 (pc' := 62) rfl (by first | rfl | assumption) rfl ?_
        refine wp_iload2 (pc' := 63) rfl rfl ?_
        refine wp_iload4 (pc' := 65) rfl rfl ?_
        refine wp_min (pc' := 68) rfl rfl rfl rfl ?_
        refine wp_istore2 (pc' := 69) rfl (by first | rfl | assumption) rfl ?_
        first | refine wp_iinc3 (w := nI 1) (pc' := 72) rfl rfl rfl (by with_reducible exact nI_add _ _) rfl ?_ | refine wp_iinc3 (w := nI 1) (pc' := 72) rfl rfl rfl rfl rfl ?_
        refine wp_goto rfl ?_
        exact WP.cg (ih (i + 1) _ (by omega) (by first | rfl | assumption)) (lC1 (lI1 (by first | with_reducible rfl | (rw [lkG_s, lkU, if_pos h53]; done) | (rw [lkG_s, lkU, if_neg h53]; done) | (rw [lkG_s, lkU]; done)) (lI1 (by first | with_reducible rfl | (rw [lkG_s, lkU, if_pos h53]; done) | (rw [lkG_s, lkU, if_neg h53]; done) | (rw [lkG_s, lkU]; done)) (lI1 (by first | with_reducible rfl | (rw [lkG_s, lkU, if_pos h53]; done) | (rw [lkG_s, lkU, if_neg h53]; done) | (rw [lkG_s, lkU]; done)) (lC1 rfl))))) rfl (by rfl)
      · intro h53
        refine wp_iload3 (pc' := 57) rfl rfl ?_
        refine wp_goto rfl ?_
        refine wp_istore1 (pc' := 62) rfl (by first | rfl | assumption) rfl ?_
        refine wp_iload2 (pc' := 63) rfl rfl ?_
        refine wp_iload4 (pc' := 65) rfl rfl ?_
        refine wp_min (pc' := 68) rfl rfl rfl rfl ?_
        refine wp_istore2 (pc' := 69) rfl (by first | rfl | assumption) rfl ?_
        first | refine wp_iinc3 (w := nI 1) (pc' := 72) rfl rfl rfl (by with_reducible exact nI_add _ _) rfl ?_ | refine wp_iinc3 (w := nI 1) (pc' := 72) rfl rfl rfl rfl rfl ?_
        refine wp_goto rfl ?_
        exact WP.cg (ih (i + 1) _ (by omega) (by first | rfl | assumption)) (lC1 (lI1 (by first | with_reducible rfl | (rw [lkG_s, lkU, if_pos h53]; done) | (rw [lkG_s, lkU, if_neg h53]; done) | (rw [lkG_s, lkU]; done)) (lI1 (by first | with_reducible rfl | (rw [lkG_s, lkU, if_pos h53]; done) | (rw [lkG_s, lkU, if_neg h53]; done) | (rw [lkG_s, lkU]; done)) (lI1 (by first | with_reducible rfl | (rw [lkG_s, lkU, if_pos h53]; done) | (rw [lkG_s, lkU, if_neg h53]; done) | (rw [lkG_s, lkU]; done)) (lC1 rfl))))) rfl (by rfl)
  exact WP.cg (lp36 (400 - (0)) (0) _ (by omega) (by first | rfl | assumption)) (lC1 (lI1 (by rfl) (lI1 (by rfl) (lI1 (by rfl) (lC1 rfl))))) rfl (by rfl)
theorem m_probe {d : Nat} {K : Nat → Nat × Nat} {I : Nat → Nat → Int32} {L : Nat → Nat → Int64} {R : Nat → Nat → Option Nat} {n s : Nat} {Q : Lo → Lm → Prop} {T : Nat} {tv : Nat → Nat} (hT : TK K R n) (h9 : I 318 9 = nI T) (hT4 : T ≤ 400) (htp : TpW (I 324) tv) (hr : trB 25 2 tv T T = true) (kk : ∀ J, UsJ 0 I J → Q (.inl (some (.int (if nI 1 < (cnP (fun k => wrR tv T k < nI 2) 400) then (lkG (fun c => jmax (cnP (fun k => wrR tv T k < nI 2 ∧ hasP (cellC k) c) 400) ((cnP (fun k => wrR tv T k < nI 2) 400) - cnP (fun k => wrR tv T k < nI 2 ∧ hasP (cellC k) c) 400)) (nI 100000000) 25).1 else -1)))) (K, J, L, R, n, s)) : Ok (d + 4) 322 [.ref 318] (K, I, L, R, n, s) Q := by
  obtain ⟨-, -, hn⟩ := id hT
  refine Ok.enter (F := F_322) (ls := [.ref 318, lDead, lDead, lDead, lDead, lDead, lDead]) rfl rfl ?_
  refine wp_aload0 (pc' := 1) rfl rfl ?_
  refine wp_callV1 (pc' := 4) rfl rfl rfl rfl rfl (by first | exact TK.k1 hT rfl | exact TK.kk hT rfl | exact TK.r hT rfl | assumption) rfl rfl ?_
  refine m_usesN hT h9 (fun N hN => ?_)
  have htpN : TpW (N 324) tv := by rw [hN.1 324 (by decide)]; exact htp
  refine Cont.u ?_
  refine wp_aload0 (pc' := 5) rfl rfl ?_
  refine wp_aload0 (pc' := 6) rfl rfl ?_
  refine wp_callV1 (pc' := 9) rfl rfl rfl rfl rfl (by first | exact TK.k1 hT rfl | exact TK.kk hT rfl | exact TK.r hT rfl | assumption) rfl rfl ?_
  refine m_isRows hT hN.2.2.2.2.1 hT4 htpN ?_
  rw [if_pos hr]
  refine Cont.v ?_
  refine wp_ifneT rfl (by decide) ?_
  refine wp_iconst (v := nI 0) (pc' := 17) rfl rfl rfl ?_
  refine wp_iconst (v := nI 1) (pc' := 18) rfl rfl rfl ?_
  refine wp_callV3 (pc' := 21) rfl rfl rfl rfl rfl (by first | exact TK.k1 hT rfl | exact TK.kk hT rfl | exact TK.r hT rfl | assumption) rfl rfl ?_
  refine m_tfN hT ?_
  refine Cont.v ?_
  refine wp_ifeqT rfl rfl ?_
  refine wp_aload0 (pc' := 27) rfl rfl ?_
  refine wp_callV1 (pc' := 30) rfl rfl rfl rfl rfl (by first | exact TK.k1 hT rfl | exact TK.kk hT rfl | exact TK.r hT rfl | assumption) rfl rfl ?_
  refine m_laysTrunks hT ?_
  obtain ⟨M, hM⟩ : ∃ M, M = upr N 330 (cpy 400 cellC (N 330)) := ⟨_, rfl⟩
  rw [← hM]
  have hMa : ∀ a, a ≠ 330 → M a = N a := fun a ha => by rw [hM]; exact upr_ne ha
  have hMe : M 318 11 = nI T := by rw [hMa 318 (by decide)]; exact hN.2.2.2.2.1
  have hMt : TpW (M 324) tv := by rw [hMa 324 (by decide)]; exact htpN
  have hMk : ∀ k, k < 400 → M 330 k = cellC k := fun k hk => by rw [hM, upr_same]; exact cpy_lt hk
  have hUJ : UsJ 0 I M := us_mk hN (fun a ha => hMa a (by omega))
  refine Cont.u ?_
  refine wp_aload0 (pc' := 31) rfl rfl ?_
  refine wp_iconst (v := (-1)) (pc' := 32) rfl rfl rfl ?_
  refine wp_callV2 (pc' := 35) rfl rfl rfl rfl rfl (by first | exact TK.k1 hT rfl | exact TK.kk hT rfl | exact TK.r hT rfl | assumption) rfl rfl ?_
  refine m_manyT hT hMe hMt hr hMk ?_
  refine Cont.v ?_
  refine wp_istore1 (pc' := 36) rfl (by first | rfl | assumption) rfl ?_
  refine wp_iconst (v := (-1)) (pc' := 37) rfl rfl rfl ?_
  refine wp_istore2 (pc' := 38) rfl (by first | rfl | assumption) rfl ?_
  refine wp_pool (v := .int (nI 100000000)) (pc' := 40) rfl rfl rfl rfl rfl ?_
  refine wp_istore3 (pc' := 41) rfl (by first | rfl | assumption) rfl ?_
  refine wp_iconst (v := nI 0) (pc' := 42) rfl rfl rfl ?_
  refine wp_istore4 (pc' := 44) rfl (by first | rfl | assumption) rfl ?_
  have lp44 : ∀ r (i : Nat) (v5 : Value) (v6 : Value), i + r = 25 → (i = 0 ∨ nI 1 < (cnP (fun k => wrR tv T k < nI 2) 400)) → isL v5 = false → isL v6 = false → WP (d + 3) F_322 44 [.ref 318, .int (cnP (fun k => wrR tv T k < nI 2) 400), .int (lkG (fun c => jmax (cnP (fun k => wrR tv T k < nI 2 ∧ hasP (cellC k) c) 400) ((cnP (fun k => wrR tv T k < nI 2) 400) - cnP (fun k => wrR tv T k < nI 2 ∧ hasP (cellC k) c) 400)) (nI 100000000) i).1, .int (lkG (fun c => jmax (cnP (fun k => wrR tv T k < nI 2 ∧ hasP (cellC k) c) 400) ((cnP (fun k => wrR tv T k < nI 2) 400) - cnP (fun k => wrR tv T k < nI 2 ∧ hasP (cellC k) c) 400)) (nI 100000000) i).2, .int (nI i), v5, v6] [] (K, M, L, R, n, s) Q := by
    intro r; induction r with
    | zero =>
      intro i v5 v6 hi hv0 hv1 hv2
      have hi2 : i = 25 := by omega
      subst hi2
      refine wp_iload4 (pc' := 46) rfl rfl ?_
      refine wp_bipush (v := nI 25) (pc' := 48) rfl rfl rfl ?_
      refine wp_icmpgeT rfl (nI_nlt (by omega) (by omega)) ?_
      refine wp_iload2 (pc' := 102) rfl rfl ?_
      refine wp_iret rfl rfl rfl ?_
      first | exact Qv (kk M hUJ) (by rw [if_pos (hv0.resolve_left (by decide))]) rfl | exact Qv (kk M hUJ) (by rw [if_neg h53, show i = 0 from hv0.resolve_right h53]; rfl) rfl
    | succ r ih =>
      intro i v5 v6 hi hv0 hv1 hv2
      have hlt : i < 25 := by omega
      refine wp_iload4 (pc' := 46) rfl rfl ?_
      refine wp_bipush (v := nI 25) (pc' := 48) rfl rfl rfl ?_
      refine wp_icmpgeF (pc' := 51) rfl (nI_lt (by omega) (by omega)) rfl ?_
      refine wp_iload1 (pc' := 52) rfl rfl ?_
      refine wp_iconst (v := nI 1) (pc' := 53) rfl rfl rfl ?_
      refine wp_icmple (pc' := 56) rfl rfl ?_ ?_
      · intro h53
        refine wp_iload2 (pc' := 102) rfl rfl ?_
        refine wp_iret rfl rfl rfl ?_
        first | exact Qv (kk M hUJ) (by rw [if_pos (hv0.resolve_left (by decide))]) rfl | exact Qv (kk M hUJ) (by rw [if_neg h53, show i = 0 from hv0.resolve_right h53]; rfl) rfl
      · intro h53
        refine wp_aload0 (pc' := 57) rfl rfl ?_
        refine wp_iload4 (pc' := 59) rfl rfl ?_
        refine wp_callV2 (pc' := 62) rfl rfl rfl rfl rfl (by first | exact TK.k1 hT rfl | exact TK.kk hT rfl | exact TK.r hT rfl | assumption) rfl rfl ?_
        refine m_manyTC hT hMe hMt hr hMk (by omega) ?_
        refine Cont.v ?_
        refine wp_istore5 (pc' := 64) rfl (by first | rfl | assumption) rfl ?_
        refine wp_iload5 (pc' := 66) rfl rfl ?_
        refine wp_iload1 (pc' := 67) rfl rfl ?_
        refine wp_iload5 (pc' := 69) rfl rfl ?_
        first | refine wp_isubN (pc' := 70) rfl (by with_reducible rfl) (by with_reducible rfl) (by omega) rfl ?_ | refine wp_isub (pc' := 70) rfl rfl ?_
        refine wp_max (pc' := 73) rfl rfl rfl rfl ?_
        refine wp_istore6 (pc' := 75) rfl (by first | rfl | assumption) rfl ?_
        refine wp_iload6 (pc' := 77) rfl rfl ?_
        refine wp_iload3 (pc' := 78) rfl rfl ?_
        refine wp_icmpge (pc' := 81) rfl rfl ?_ ?_
        · intro h78
          refine wp_iload2 (pc' := 87) rfl rfl ?_
          refine wp_istore2 (pc' := 88) rfl (by first | rfl | assumption) rfl ?_
          refine wp_iload3 (pc' := 89) rfl rfl ?_
          refine wp_iload6 (pc' := 91) rfl rfl ?_
          refine wp_min (pc' := 94) rfl rfl rfl rfl ?_
          refine wp_istore3 (pc' := 95) rfl (by first | rfl | assumption) rfl ?_
          first | refine wp_iinc4 (w := nI 1) (pc' := 98) rfl rfl rfl (by with_reducible exact nI_add _ _) rfl ?_ | refine wp_iinc4 (w := nI 1) (pc' := 98) rfl rfl rfl rfl rfl ?_
          refine wp_goto rfl ?_
          exact WP.cg (ih (i + 1) _ _ (by omega) (Or.inr h53) (by first | rfl | assumption) (by first | rfl | assumption)) (lC1 (lI1 (by first | with_reducible rfl | (rw [lkG_s, lkU, if_pos h78]; done) | (rw [lkG_s, lkU, if_neg h78]; done) | (rw [lkG_s, lkU]; done)) (lI1 (by first | with_reducible rfl | (rw [lkG_s, lkU, if_pos h78]; done) | (rw [lkG_s, lkU, if_neg h78]; done) | (rw [lkG_s, lkU]; done)) (lI1 (by first | with_reducible rfl | (rw [lkG_s, lkU, if_pos h78]; done) | (rw [lkG_s, lkU, if_neg h78]; done) | (rw [lkG_s, lkU]; done)) (lI1 (by first | with_reducible rfl | (rw [lkG_s, lkU, if_pos h78]; done) | (rw [lkG_s, lkU, if_neg h78]; done) | (rw [lkG_s, lkU]; done)) (lC1 (lC1 rfl))))))) rfl (by rfl)
        · intro h78
          refine wp_iload4 (pc' := 83) rfl rfl ?_
          refine wp_goto rfl ?_
          refine wp_istore2 (pc' := 88) rfl (by first | rfl | assumption) rfl ?_
          refine wp_iload3 (pc' := 89) rfl rfl ?_
          refine wp_iload6 (pc' := 91) rfl rfl ?_
          refine wp_min (pc' := 94) rfl rfl rfl rfl ?_
          refine wp_istore3 (pc' := 95) rfl (by first | rfl | assumption) rfl ?_
          first | refine wp_iinc4 (w := nI 1) (pc' := 98) rfl rfl rfl (by with_reducible exact nI_add _ _) rfl ?_ | refine wp_iinc4 (w := nI 1) (pc' := 98) rfl rfl rfl rfl rfl ?_
          refine wp_goto rfl ?_
          exact WP.cg (ih (i + 1) _ _ (by omega) (Or.inr h53) (by first | rfl | assumption) (by first | rfl | assumption)) (lC1 (lI1 (by first | with_reducible rfl | (rw [lkG_s, lkU, if_pos h78]; done) | (rw [lkG_s, lkU, if_neg h78]; done) | (rw [lkG_s, lkU]; done)) (lI1 (by first | with_reducible rfl | (rw [lkG_s, lkU, if_pos h78]; done) | (rw [lkG_s, lkU, if_neg h78]; done) | (rw [lkG_s, lkU]; done)) (lI1 (by first | with_reducible rfl | (rw [lkG_s, lkU, if_pos h78]; done) | (rw [lkG_s, lkU, if_neg h78]; done) | (rw [lkG_s, lkU]; done)) (lI1 (by first | with_reducible rfl | (rw [lkG_s, lkU, if_pos h78]; done) | (rw [lkG_s, lkU, if_neg h78]; done) | (rw [lkG_s, lkU]; done)) (lC1 (lC1 rfl))))))) rfl (by rfl)
  exact WP.cg (lp44 (25 - (0)) (0) _ _ (by omega) (Or.inl rfl) (by first | rfl | assumption) (by first | rfl | assumption)) (lC1 (lI1 (by rfl) (lI1 (by rfl) (lI1 (by rfl) (lI1 (by rfl) (lC1 (lC1 rfl))))))) rfl (by rfl)
theorem m_trunksE {d : Nat} {K : Nat → Nat × Nat} {I : Nat → Nat → Int32} {L : Nat → Nat → Int64} {R : Nat → Nat → Option Nat} {n s : Nat} {Q : Lo → Lm → Prop} {T : Nat} {tv : Nat → Nat} (hT : TK K R n) (h9 : I 318 9 = nI T) (hT4 : T ≤ 400) (htp : TpW (I 324) tv) (hr : trB 25 2 tv T T = false) (kk : ∀ J, UsJ 1 I J → Q (.inl (some (.int (nI 0)))) (K, J, L, R, n, s)) : Ok (d + 4) 316 [.ref 318] (K, I, L, R, n, s) Q := by
  obtain ⟨-, -, hn⟩ := id hT
  refine Ok.enter (F := F_316) (ls := [.ref 318]) rfl rfl ?_
  refine wp_aload0 (pc' := 1) rfl rfl ?_
  refine wp_callV1 (pc' := 4) rfl rfl rfl rfl rfl (by first | exact TK.k1 hT rfl | exact TK.kk hT rfl | exact TK.r hT rfl | assumption) rfl rfl ?_
  refine m_usesN hT h9 (fun N hN => ?_)
  have htpN : TpW (N 324) tv := by rw [hN.1 324 (by decide)]; exact htp
  refine Cont.u ?_
  refine wp_aload0 (pc' := 5) rfl rfl ?_
  refine wp_aload0 (pc' := 6) rfl rfl ?_
  refine wp_callV1 (pc' := 9) rfl rfl rfl rfl rfl (by first | exact TK.k1 hT rfl | exact TK.kk hT rfl | exact TK.r hT rfl | assumption) rfl rfl ?_
  refine m_isRows hT hN.2.2.2.2.1 hT4 htpN ?_
  rw [if_neg (by rw [hr]; decide)]
  refine Cont.v ?_
  refine wp_ifneF (pc' := 12) rfl rfl rfl ?_
  refine wp_iconst (v := nI 1) (pc' := 13) rfl rfl rfl ?_
  refine wp_goto rfl ?_
  refine wp_iconst (v := nI 1) (pc' := 18) rfl rfl rfl ?_
  refine wp_callV3 (pc' := 21) rfl rfl rfl rfl rfl (by first | exact TK.k1 hT rfl | exact TK.kk hT rfl | exact TK.r hT rfl | assumption) rfl rfl ?_
  refine m_tfY hT ?_
  refine Cont.v ?_
  refine wp_ifeqF (pc' := 24) rfl (by decide) rfl ?_
  refine wp_iconst (v := nI 0) (pc' := 25) rfl rfl rfl ?_
  refine wp_iret rfl rfl rfl ?_
  exact kk _ (us_thr hN)
theorem m_likelyE {d : Nat} {K : Nat → Nat × Nat} {I : Nat → Nat → Int32} {L : Nat → Nat → Int64} {R : Nat → Nat → Option Nat} {n s : Nat} {Q : Lo → Lm → Prop} {T : Nat} {tv : Nat → Nat} (hT : TK K R n) (h9 : I 318 9 = nI T) (hT4 : T ≤ 400) (htp : TpW (I 324) tv) (hr : trB 25 2 tv T T = false) (kk : ∀ J, UsJ 1 I J → Q (.inl (some (.int (nI 0)))) (K, J, L, R, n, s)) : Ok (d + 4) 321 [.ref 318] (K, I, L, R, n, s) Q := by
  obtain ⟨-, -, hn⟩ := id hT
  refine Ok.enter (F := F_321) (ls := [.ref 318, lDead, lDead, lDead, lDead]) rfl rfl ?_
  refine wp_aload0 (pc' := 1) rfl rfl ?_
  refine wp_callV1 (pc' := 4) rfl rfl rfl rfl rfl (by first | exact TK.k1 hT rfl | exact TK.kk hT rfl | exact TK.r hT rfl | assumption) rfl rfl ?_
  refine m_usesN hT h9 (fun N hN => ?_)
  have htpN : TpW (N 324) tv := by rw [hN.1 324 (by decide)]; exact htp
  refine Cont.u ?_
  refine wp_aload0 (pc' := 5) rfl rfl ?_
  refine wp_aload0 (pc' := 6) rfl rfl ?_
  refine wp_callV1 (pc' := 9) rfl rfl rfl rfl rfl (by first | exact TK.k1 hT rfl | exact TK.kk hT rfl | exact TK.r hT rfl | assumption) rfl rfl ?_
  refine m_isRows hT hN.2.2.2.2.1 hT4 htpN ?_
  rw [if_neg (by rw [hr]; decide)]
  refine Cont.v ?_
  refine wp_ifneF (pc' := 12) rfl rfl rfl ?_
  refine wp_iconst (v := nI 1) (pc' := 13) rfl rfl rfl ?_
  refine wp_goto rfl ?_
  refine wp_iconst (v := nI 1) (pc' := 18) rfl rfl rfl ?_
  refine wp_callV3 (pc' := 21) rfl rfl rfl rfl rfl (by first | exact TK.k1 hT rfl | exact TK.kk hT rfl | exact TK.r hT rfl | assumption) rfl rfl ?_
  refine m_tfY hT ?_
  refine Cont.v ?_
  refine wp_ifeqF (pc' := 24) rfl (by decide) rfl ?_
  refine wp_iconst (v := nI 0) (pc' := 25) rfl rfl rfl ?_
  refine wp_iret rfl rfl rfl ?_
  exact kk _ (us_thr hN)
theorem m_probeE {d : Nat} {K : Nat → Nat × Nat} {I : Nat → Nat → Int32} {L : Nat → Nat → Int64} {R : Nat → Nat → Option Nat} {n s : Nat} {Q : Lo → Lm → Prop} {T : Nat} {tv : Nat → Nat} (hT : TK K R n) (h9 : I 318 9 = nI T) (hT4 : T ≤ 400) (htp : TpW (I 324) tv) (hr : trB 25 2 tv T T = false) (kk : ∀ J, UsJ 1 I J → Q (.inl (some (.int (nI 0)))) (K, J, L, R, n, s)) : Ok (d + 4) 322 [.ref 318] (K, I, L, R, n, s) Q := by
  obtain ⟨-, -, hn⟩ := id hT
  refine Ok.enter (F := F_322) (ls := [.ref 318, lDead, lDead, lDead, lDead, lDead, lDead]) rfl rfl ?_
  refine wp_aload0 (pc' := 1) rfl rfl ?_
  refine wp_callV1 (pc' := 4) rfl rfl rfl rfl rfl (by first | exact TK.k1 hT rfl | exact TK.kk hT rfl | exact TK.r hT rfl | assumption) rfl rfl ?_
  refine m_usesN hT h9 (fun N hN => ?_)
  have htpN : TpW (N 324) tv := by rw [hN.1 324 (by decide)]; exact htp
  refine Cont.u ?_
  refine wp_aload0 (pc' := 5) rfl rfl ?_
  refine wp_aload0 (pc' := 6) rfl rfl ?_
  refine wp_callV1 (pc' := 9) rfl rfl rfl rfl rfl (by first | exact TK.k1 hT rfl | exact TK.kk hT rfl | exact TK.r hT rfl | assumption) rfl rfl ?_
  refine m_isRows hT hN.2.2.2.2.1 hT4 htpN ?_
  rw [if_neg (by rw [hr]; decide)]
  refine Cont.v ?_
  refine wp_ifneF (pc' := 12) rfl rfl rfl ?_
  refine wp_iconst (v := nI 1) (pc' := 13) rfl rfl rfl ?_
  refine wp_goto rfl ?_
  refine wp_iconst (v := nI 1) (pc' := 18) rfl rfl rfl ?_
  refine wp_callV3 (pc' := 21) rfl rfl rfl rfl rfl (by first | exact TK.k1 hT rfl | exact TK.kk hT rfl | exact TK.r hT rfl | assumption) rfl rfl ?_
  refine m_tfY hT ?_
  refine Cont.v ?_
  refine wp_ifeqF (pc' := 24) rfl (by decide) rfl ?_
  refine wp_iconst (v := nI 0) (pc' := 25) rfl rfl rfl ?_
  refine wp_iret rfl rfl rfl ?_
  exact kk _ (us_thr hN)
