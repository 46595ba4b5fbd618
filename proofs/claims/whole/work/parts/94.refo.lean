/-! THE REFERENCE: falls -/
def wbN (k e : Nat) : Nat := max (min (k / 200) (k % 10)) (k / 200 - e / (k / 10 % 20 + 1))
theorem wbN_lt {k e : Nat} (hk : k < 2000) : wbN k e < 10 := by
  unfold wbN
  have h1 : k / 200 < 10 := by omega
  have h2 := Nat.sub_le (k / 200) (e / (k / 10 % 20 + 1))
  have h3 := Nat.min_le_left (k / 200) (k % 10)
  omega
theorem jmx {a b c : Nat} (ha : a < 2 ^ 29) (hb : b < 2 ^ 29) (hc : c < 2 ^ 29) : jmax (nI a) (nI b - nI c) = nI (max a (b - c)) := by
  unfold jmax
  by_cases h : c ≤ b
  · rw [nI_sub h]
    by_cases q : a < b - c
    · rw [if_pos (nI_lt q (by omega)), Nat.max_eq_right (by omega)]
    · rw [if_neg (nI_nlt (by omega) (by omega)), Nat.max_eq_left (by omega)]
  · rw [if_neg (fun q => absurd (Int32.lt_trans q (pk_sneg (a := b) (b := c) (by omega) (by omega))) (nI_pos (by omega))), show b - c = 0 by omega, Nat.max_eq_left (by omega)]
theorem jmx2 {a b c : Nat} (ha : a < 2 ^ 29) (hb : b < 2 ^ 29) (hc : c < 2 ^ 29) : jmax (nI b - nI c) (nI a) = nI (max a (b - c)) := by
  unfold jmax
  by_cases h : c ≤ b
  · rw [nI_sub h]
    by_cases q : b - c < a
    · rw [if_pos (nI_lt q (by omega)), Nat.max_eq_left (by omega)]
    · rw [if_neg (nI_nlt (by omega) (by omega)), Nat.max_eq_right (by omega)]
  · rw [show b - c = 0 by omega, Nat.max_eq_left (by omega)]
    by_cases q : a = 0
    · subst q; exact if_pos (show nI b - nI c < nI 0 from pk_sneg (a := b) (b := c) (by omega) (by omega))
    · rw [if_pos (Int32.lt_trans (pk_sneg (a := b) (b := c) (by omega) (by omega)) (nI_lt (show 0 < a by omega) (by omega)))]
theorem fitE_wb {tv : Nat → Nat} {k i : Nat} (hk : k < 2000) (h : tv (2 * i) < 256) : fitE tv k i = nI (wbN k (tv (2 * i))) := by
  have hd := Nat.div_le_self (tv (2 * i)) (k / 10 % 20 + 1)
  unfold fitE wbN
  rw [jmx2 (by omega) (by omega) (by omega), Nat.min_comm]
theorem fitB_s {tv : Nat → Nat} {k i : Nat} : fitB tv k (i + 1) = (fitB tv k i && decide (fitE tv k i = nI (tv (2 * i + 1)))) := rfl
theorem fitB_ff {tv : Nat → Nat} {k i : Nat} (h : ¬ fitB tv k i = true) : ∀ m, i ≤ m → fitB tv k m = false
  | 0 => fun hm => by rw [show i = 0 by omega] at h; exact Bool.eq_false_iff.mpr h
  | m + 1 => fun hm => by
    by_cases e : i = m + 1
    · rw [← e]; exact Bool.eq_false_iff.mpr h
    · rw [fitB_s, fitB_ff h m (by omega)]; rfl
theorem ffrom_dn {p : Nat → Prop} [∀ k, Decidable (p k)] {N i : Nat} (hi : i < N) : ffrom p (i + 1) (N - (i + 1)) = if p (N - (i + 1)) then nI (N - (i + 1)) else ffrom p i (N - i) := by
  rw [ffrom, show N - (i + 1) + 1 = N - i by omega]
def cnL (p : Nat → Bool) (f : Nat → Nat) (l : Nat) : Nat → Nat
  | 0 => 0
  | i + 1 => cnL p f l i + (if p i = true ∧ f i = l then 1 else 0)
theorem cnL_s {p : Nat → Bool} {f : Nat → Nat} {l i : Nat} : cnL p f l (i + 1) = cnL p f l i + (if p i = true ∧ f i = l then 1 else 0) := rfl
theorem cnL_le {p : Nat → Bool} {f : Nat → Nat} {l : Nat} : ∀ i, cnL p f l i ≤ i
  | 0 => Nat.le_refl _
  | i + 1 => by have := cnL_le (p := p) (f := f) (l := l) i; rw [cnL_s]; split <;> omega
theorem cnV_n {p : Nat → Bool} {f : Nat → Nat} {V : Nat → Int32} {i : Nat} (h : ∀ l, l < 10 → V l = nI (cnL p f l i)) (hp : ¬ p i = true) : ∀ l, l < 10 → V l = nI (cnL p f l (i + 1)) := fun l hl => by
  rw [cnL_s, if_neg (fun q => hp q.1)]; exact h l hl
theorem cnV_s {p : Nat → Bool} {f : Nat → Nat} {V : Nat → Int32} {i : Nat} (h : ∀ l, l < 10 → V l = nI (cnL p f l i)) (hp : p i = true) : ∀ l, l < 10 → up1 V (f i) (nI (cnL p f (f i) i + 1)) l = nI (cnL p f l (i + 1)) := fun l hl => by
  by_cases q : l = f i
  · subst q; rw [up1_hit, cnL_s, if_pos ⟨hp, rfl⟩]
  · rw [up1_ne q, cnL_s, if_neg (fun z => q z.2.symm)]; exact h l hl
def mxP (p : Nat → Bool) (f : Nat → Nat) : Nat → Nat
  | 0 => 0
  | i + 1 => if p i = true then max (mxP p f i) (cnL p f (f i) (i + 1)) else mxP p f i
theorem mxP_s {p : Nat → Bool} {f : Nat → Nat} {i : Nat} : mxP p f (i + 1) = if p i = true then max (mxP p f i) (cnL p f (f i) (i + 1)) else mxP p f i := rfl
theorem mxP_le {p : Nat → Bool} {f : Nat → Nat} : ∀ i, mxP p f i ≤ i
  | 0 => Nat.le_refl _
  | i + 1 => by
    have := mxP_le (p := p) (f := f) i
    have := cnL_le (p := p) (f := f) (l := f i) (i + 1)
    rw [mxP_s]; split <;> omega
theorem nI_max {a b : Nat} (ha : a < 2 ^ 31) (hb : b < 2 ^ 31) : jmax (nI a) (nI b) = nI (max a b) := by
  unfold jmax
  by_cases h : a < b
  · rw [if_pos (nI_lt h hb), Nat.max_eq_right (by omega)]
  · rw [if_neg (nI_nlt (by omega) ha), Nat.max_eq_left (by omega)]
theorem d2000 : ∀ i : Fin 2000, nI (1999 - i.1) + (-1) = nI 1999 - nI (i.1 + 1) := by decide +kernel

theorem m_waterBy {d : Nat} {K : Nat → Nat × Nat} {I : Nat → Nat → Int32} {L : Nat → Nat → Int64} {R : Nat → Nat → Option Nat} {n s : Nat} {Q : Lo → Lm → Prop} {k e : Nat} (hk : k < 2000) (he : e < 256) (kk : Q (.inl (some (.int (nI (wbN k e))))) (K, I, L, R, n, s)) : Ok (d + 1) 327 [.int (nI k), .int (nI e)] (K, I, L, R, n, s) Q := by
  have hd := Nat.div_le_self e (k / 10 % 20 + 1)
  refine Ok.enter (F := F_327) (ls := [.int (nI k), .int (nI e), lDead, lDead]) rfl rfl ?_
  refine wp_iload0 (pc' := 1) rfl rfl ?_
  refine wp_sipush (v := nI 200) (pc' := 4) rfl rfl rfl ?_
  first | refine wp_idivN (pc' := 5) rfl (by with_reducible rfl) (by with_reducible rfl) (by omega) (by omega) (by omega) rfl ?_ | refine wp_idiv (pc' := 5) rfl (by decide) rfl ?_
  refine wp_istore2 (pc' := 6) rfl (by first | rfl | assumption) rfl ?_
  refine wp_iload0 (pc' := 7) rfl rfl ?_
  refine wp_bipush (v := nI 10) (pc' := 9) rfl rfl rfl ?_
  first | refine wp_idivN (pc' := 10) rfl (by with_reducible rfl) (by with_reducible rfl) (by omega) (by omega) (by omega) rfl ?_ | refine wp_idiv (pc' := 10) rfl (by decide) rfl ?_
  refine wp_bipush (v := nI 20) (pc' := 12) rfl rfl rfl ?_
  first | refine wp_iremN (pc' := 13) rfl (by with_reducible rfl) (by with_reducible rfl) (by omega) (by omega) (by omega) rfl ?_ | refine wp_irem (pc' := 13) rfl (by decide) rfl ?_
  refine wp_iconst (v := nI 1) (pc' := 14) rfl rfl rfl ?_
  first | refine wp_iaddN (pc' := 15) rfl (by with_reducible rfl) (by with_reducible rfl) rfl ?_ | refine wp_iadd (pc' := 15) rfl rfl ?_
  refine wp_istore3 (pc' := 16) rfl (by first | rfl | assumption) rfl ?_
  refine wp_iload2 (pc' := 17) rfl rfl ?_
  refine wp_iload0 (pc' := 18) rfl rfl ?_
  refine wp_bipush (v := nI 10) (pc' := 20) rfl rfl rfl ?_
  first | refine wp_iremN (pc' := 21) rfl (by with_reducible rfl) (by with_reducible rfl) (by omega) (by omega) (by omega) rfl ?_ | refine wp_irem (pc' := 21) rfl (by decide) rfl ?_
  skip
  refine wp_min (pc' := 24) rfl rfl rfl rfl ?_
  refine wp_iload2 (pc' := 25) rfl rfl ?_
  refine wp_iload1 (pc' := 26) rfl rfl ?_
  refine wp_iload3 (pc' := 27) rfl rfl ?_
  first | refine wp_idivN (pc' := 28) rfl (by with_reducible rfl) (by with_reducible rfl) (by omega) (by omega) (by omega) rfl ?_ | refine wp_idiv (pc' := 28) rfl (by decide) rfl ?_
  first | refine wp_isubN (pc' := 29) rfl (by with_reducible rfl) (by with_reducible rfl) (by omega) rfl ?_ | refine wp_isub (pc' := 29) rfl rfl ?_
  refine wp_max (pc' := 32) rfl rfl rfl rfl ?_
  rw [nI_min (by omega) (by omega), jmx (by omega) (by omega) (by omega)]
  refine wp_iret rfl rfl rfl ?_
  exact kk
theorem m_fitsFall {d : Nat} {K : Nat → Nat × Nat} {I : Nat → Nat → Int32} {L : Nat → Nat → Int64} {R : Nat → Nat → Option Nat} {n s : Nat} {Q : Lo → Lm → Prop} {T k : Nat} {tv : Nat → Nat} (hT : TK K R n) (he : I 318 11 = nI T) (htp : TpW (I 324) tv) (hr : trB 100 10 tv T T = true) (hk : k < 2000) (kk : Q (.inl (some (.int (if fitB tv k (T / 2) = true then nI 1 else nI 0)))) (K, I, L, R, n, s)) : Ok (d + 2) 326 [.ref 318, .int (nI k)] (K, I, L, R, n, s) Q := by
  obtain ⟨-, -, hn⟩ := id hT
  have hT40 := trB_40 hr
  refine Ok.enter (F := F_326) (ls := [.ref 318, .int (nI k), lDead, lDead]) rfl rfl ?_
  refine wp_iconst (v := nI 1) (pc' := 1) rfl rfl rfl ?_
  refine wp_istore2 (pc' := 2) rfl (by first | rfl | assumption) rfl ?_
  refine wp_iconst (v := nI 0) (pc' := 3) rfl rfl rfl ?_
  refine wp_istore3 (pc' := 4) rfl (by first | rfl | assumption) rfl ?_
  have lp4 : ∀ r (i : Nat), i + r = (T / 2) → WP (d + 1) F_326 4 [.ref 318, .int (nI k), .int (if fitB tv k i = true then nI 1 else nI 0), .int (nI (2 * i))] [] (K, I, L, R, n, s) Q := by
    intro r; induction r with
    | zero =>
      intro i hi 
      have hi2 : i = (T / 2) := by omega
      subst hi2
      refine wp_iload3 (pc' := 5) rfl rfl ?_
      refine wp_aload0 (pc' := 6) rfl rfl ?_
      refine wp_getI (pc' := 9) rfl rfl (by first | exact TK.k1 hT rfl | exact TK.kk hT rfl | exact TK.r hT rfl | assumption) rfl ?_
      rw [he]
      refine wp_icmpgeT rfl (nI_nlt (by omega) (by omega)) ?_
      refine wp_iload2 (pc' := 50) rfl rfl ?_
      refine wp_iret rfl rfl (by first | rfl | exact nar_if) ?_
      first | exact kk | exact Qv kk (by rw [fitB_ff h13 (T / 2) (by omega), if_neg h13]; rfl) rfl
    | succ r ih =>
      intro i hi 
      have hlt : i < (T / 2) := by omega
      have q1 := trB_lt hr (2 * i) (by omega)
      have q2 := trB_lt hr (2 * i + 1) (by omega)
      rw [if_pos (by omega)] at q1
      rw [if_neg (by omega)] at q2
      have hfe := fitE_wb (tv := tv) (k := k) (i := i) hk (by omega)
      refine wp_iload3 (pc' := 5) rfl rfl ?_
      refine wp_aload0 (pc' := 6) rfl rfl ?_
      refine wp_getI (pc' := 9) rfl rfl (by first | exact TK.k1 hT rfl | exact TK.kk hT rfl | exact TK.r hT rfl | assumption) rfl ?_
      rw [he]
      refine wp_icmpgeF (pc' := 12) rfl (nI_lt (by omega) (by omega)) rfl ?_
      first | skip
      refine wp_iload2 (pc' := 13) rfl rfl ?_
      first | refine wp_ifeqB (pc' := 16) rfl rfl ?_ ?_ | refine wp_ifeq (pc' := 16) rfl rfl ?_ ?_
      · intro h13
        refine wp_iload2 (pc' := 50) rfl rfl ?_
        refine wp_iret rfl rfl (by first | rfl | exact nar_if) ?_
        first | exact kk | exact Qv kk (by rw [fitB_ff h13 (T / 2) (by omega), if_neg h13]; rfl) rfl
      · intro h13
        refine wp_iload1 (pc' := 17) rfl rfl ?_
        refine wp_aload0 (pc' := 18) rfl rfl ?_
        refine wp_getRF (pc' := 21) rfl rfl (by first | exact TK.k1 hT rfl | exact TK.kk hT rfl | exact TK.r hT rfl | assumption) (by first | exact TK.k1 hT rfl | exact TK.kk hT rfl | exact TK.r hT rfl | assumption) rfl ?_
        refine wp_iload3 (pc' := 22) rfl rfl ?_
        first | refine wp_bald _ (pc' := 23) rfl (by first | exact TK.k1 hT rfl | exact TK.kk hT rfl | exact TK.r hT rfl | assumption) (by with_reducible rfl) (by omega) (by first | decide | assumption | omega) rfl ?_ | refine wp_zald _ (pc' := 23) rfl (by first | exact TK.k1 hT rfl | exact TK.kk hT rfl | exact TK.r hT rfl | assumption) (by with_reducible rfl) (by omega) (by first | decide | assumption | omega) rfl ?_
        rw [(htp _ (by omega)).1, sb_lo (by omega)]
        refine wp_callS2 (pc' := 26) rfl rfl rfl rfl rfl rfl ?_
        refine m_waterBy hk (by omega) ?_
        refine Cont.v ?_
        refine wp_aload0 (pc' := 27) rfl rfl ?_
        refine wp_getRF (pc' := 30) rfl rfl (by first | exact TK.k1 hT rfl | exact TK.kk hT rfl | exact TK.r hT rfl | assumption) (by first | exact TK.k1 hT rfl | exact TK.kk hT rfl | exact TK.r hT rfl | assumption) rfl ?_
        refine wp_iload3 (pc' := 31) rfl rfl ?_
        refine wp_iconst (v := nI 1) (pc' := 32) rfl rfl rfl ?_
        first | refine wp_iaddN (pc' := 33) rfl (by with_reducible rfl) (by with_reducible rfl) rfl ?_ | refine wp_iadd (pc' := 33) rfl rfl ?_
        first | refine wp_bald _ (pc' := 34) rfl (by first | exact TK.k1 hT rfl | exact TK.kk hT rfl | exact TK.r hT rfl | assumption) (by with_reducible rfl) (by omega) (by first | decide | assumption | omega) rfl ?_ | refine wp_zald _ (pc' := 34) rfl (by first | exact TK.k1 hT rfl | exact TK.kk hT rfl | exact TK.r hT rfl | assumption) (by with_reducible rfl) (by omega) (by first | decide | assumption | omega) rfl ?_
        rw [(htp _ (by omega)).1, sb_lo (by omega)]
        refine wp_icmpne (pc' := 37) rfl rfl ?_ ?_
        · intro h34
          refine wp_iconst (v := nI 0) (pc' := 42) rfl rfl rfl ?_
          refine wp_istore2 (pc' := 43) rfl (by first | rfl | assumption) rfl ?_
          first | refine wp_iinc3 (w := nI 2) (pc' := 46) rfl rfl rfl (by with_reducible exact nI_add _ _) rfl ?_ | refine wp_iinc3 (w := nI 2) (pc' := 46) rfl rfl rfl rfl rfl ?_
          refine wp_goto rfl ?_
          exact WP.cg (ih (i + 1) (by omega)) (lC1 (lI1 (by first | with_reducible rfl | exact congrArg nI (Nat.mul_succ 2 i).symm | (rw [fitB_s, h13, hfe, decide_eq_true h34]; rfl) | (rw [fitB_s, h13, hfe, decide_eq_false h34]; rfl)) (lI1 (by first | with_reducible rfl | exact congrArg nI (Nat.mul_succ 2 i).symm | (rw [fitB_s, h13, hfe, decide_eq_true h34]; rfl) | (rw [fitB_s, h13, hfe, decide_eq_false h34]; rfl)) (lI1 (by first | with_reducible rfl | exact congrArg nI (Nat.mul_succ 2 i).symm | (rw [fitB_s, h13, hfe, decide_eq_true h34]; rfl) | (rw [fitB_s, h13, hfe, decide_eq_false h34]; rfl)) rfl)))) rfl (by rfl)
        · intro h34
          refine wp_iconst (v := nI 1) (pc' := 38) rfl rfl rfl ?_
          refine wp_goto rfl ?_
          refine wp_istore2 (pc' := 43) rfl (by first | rfl | assumption) rfl ?_
          first | refine wp_iinc3 (w := nI 2) (pc' := 46) rfl rfl rfl (by with_reducible exact nI_add _ _) rfl ?_ | refine wp_iinc3 (w := nI 2) (pc' := 46) rfl rfl rfl rfl rfl ?_
          refine wp_goto rfl ?_
          exact WP.cg (ih (i + 1) (by omega)) (lC1 (lI1 (by first | with_reducible rfl | exact congrArg nI (Nat.mul_succ 2 i).symm | (rw [fitB_s, h13, hfe, decide_eq_true h34]; rfl) | (rw [fitB_s, h13, hfe, decide_eq_false h34]; rfl)) (lI1 (by first | with_reducible rfl | exact congrArg nI (Nat.mul_succ 2 i).symm | (rw [fitB_s, h13, hfe, decide_eq_true h34]; rfl) | (rw [fitB_s, h13, hfe, decide_eq_false h34]; rfl)) (lI1 (by first | with_reducible rfl | exact congrArg nI (Nat.mul_succ 2 i).symm | (rw [fitB_s, h13, hfe, decide_eq_true h34]; rfl) | (rw [fitB_s, h13, hfe, decide_eq_false h34]; rfl)) rfl)))) rfl (by rfl)
  exact WP.cg (lp4 ((T / 2) - (0)) (0) (by omega)) (lC1 (lI1 (by rfl) (lI1 (by rfl) (lI1 (by rfl) rfl)))) rfl (by rfl)
theorem m_laysFalls {d : Nat} {K : Nat → Nat × Nat} {I : Nat → Nat → Int32} {L : Nat → Nat → Int64} {R : Nat → Nat → Option Nat} {n s : Nat} {Q : Lo → Lm → Prop} {T : Nat} {tv : Nat → Nat} (hT : TK K R n) (he : I 318 11 = nI T) (htp : TpW (I 324) tv) (hr : trB 100 10 tv T T = true) (kk : Q (.inl (some (.int (cnP (fun k => fitB tv k (T / 2) = true) 2000)))) (K, upr I 331 (cpy 2000 (fun k => if fitB tv k (T / 2) = true then nI 1 else nI 0) (I 331)), L, R, n, s)) : Ok (d + 3) 325 [.ref 318] (K, I, L, R, n, s) Q := by
  obtain ⟨-, -, hn⟩ := id hT
  refine Ok.enter (F := F_325) (ls := [.ref 318, lDead, lDead]) rfl rfl ?_
  refine wp_iconst (v := nI 0) (pc' := 1) rfl rfl rfl ?_
  refine wp_istore1 (pc' := 2) rfl (by first | rfl | assumption) rfl ?_
  refine wp_iconst (v := nI 0) (pc' := 3) rfl rfl rfl ?_
  refine wp_istore2 (pc' := 4) rfl (by first | rfl | assumption) rfl ?_
  have lp4 : ∀ r (i : Nat), i + r = 2000 → WP (d + 2) F_325 4 [.ref 318, .int (cnP (fun k => fitB tv k (T / 2) = true) i), .int (nI i)] [] (K, upr I 331 (cpy i (fun k => if fitB tv k (T / 2) = true then nI 1 else nI 0) (I 331)), L, R, n, s) Q := by
    intro r; induction r with
    | zero =>
      intro i hi 
      have hi2 : i = 2000 := by omega
      subst hi2
      refine wp_iload2 (pc' := 5) rfl rfl ?_
      refine wp_sipush (v := nI 2000) (pc' := 8) rfl rfl rfl ?_
      refine wp_icmpgeT rfl (nI_nlt (by omega) (by omega)) ?_
      refine wp_iload1 (pc' := 46) rfl rfl ?_
      refine wp_iret rfl rfl rfl ?_
      exact kk
    | succ r ih =>
      intro i hi 
      have hlt : i < 2000 := by omega
      refine wp_iload2 (pc' := 5) rfl rfl ?_
      refine wp_sipush (v := nI 2000) (pc' := 8) rfl rfl rfl ?_
      refine wp_icmpgeF (pc' := 11) rfl (nI_lt (by omega) (by omega)) rfl ?_
      refine wp_aload0 (pc' := 12) rfl rfl ?_
      refine wp_getRF (pc' := 15) rfl rfl (by first | exact TK.k1 hT rfl | exact TK.kk hT rfl | exact TK.r hT rfl | assumption) (by first | exact TK.k1 hT rfl | exact TK.kk hT rfl | exact TK.r hT rfl | assumption) rfl ?_
      refine wp_iload2 (pc' := 16) rfl rfl ?_
      refine wp_aload0 (pc' := 17) rfl rfl ?_
      refine wp_iload2 (pc' := 18) rfl rfl ?_
      refine wp_callV2 (pc' := 21) rfl rfl rfl rfl rfl (by first | exact TK.k1 hT rfl | exact TK.kk hT rfl | exact TK.r hT rfl | assumption) rfl rfl ?_
      refine m_fitsFall hT (by rw [upr_ne (show (318 : Nat) ≠ 331 by decide)]; exact he) (by rw [upr_ne (show (324 : Nat) ≠ 331 by decide)]; exact htp) hr (by omega) ?_
      refine Cont.v ?_
      first | refine wp_bast _ (pc' := 22) rfl (by first | exact TK.k1 hT rfl | exact TK.kk hT rfl | exact TK.r hT rfl | assumption) (by omega) (by with_reducible rfl) (by omega) (by first | decide | assumption | omega) rfl ?_ | refine wp_zast _ (pc' := 22) rfl (by first | exact TK.k1 hT rfl | exact TK.kk hT rfl | exact TK.r hT rfl | assumption) (by omega) if01 (by with_reducible rfl) (by omega) (by first | decide | assumption | omega) rfl ?_
      refine wp_iload1 (pc' := 23) rfl rfl ?_
      refine wp_aload0 (pc' := 24) rfl rfl ?_
      refine wp_getRF (pc' := 27) rfl rfl (by first | exact TK.k1 hT rfl | exact TK.kk hT rfl | exact TK.r hT rfl | assumption) (by first | exact TK.k1 hT rfl | exact TK.kk hT rfl | exact TK.r hT rfl | assumption) rfl ?_
      refine wp_iload2 (pc' := 28) rfl rfl ?_
      first | refine wp_bald _ (pc' := 29) rfl (by first | exact TK.k1 hT rfl | exact TK.kk hT rfl | exact TK.r hT rfl | assumption) (by with_reducible rfl) (by omega) (by first | decide | assumption | omega) rfl ?_ | refine wp_zald _ (pc' := 29) rfl (by first | exact TK.k1 hT rfl | exact TK.kk hT rfl | exact TK.r hT rfl | assumption) (by with_reducible rfl) (by omega) (by first | decide | assumption | omega) rfl ?_
      rw [up2_hit]
      first | refine wp_ifeqB (pc' := 32) rfl rfl ?_ ?_ | refine wp_ifeq (pc' := 32) rfl rfl ?_ ?_
      · intro h29
        refine wp_iconst (v := nI 0) (pc' := 37) rfl rfl rfl ?_
        first | refine wp_iaddN (pc' := 38) rfl (by with_reducible rfl) (by with_reducible rfl) rfl ?_ | refine wp_iadd (pc' := 38) rfl rfl ?_
        refine wp_istore1 (pc' := 39) rfl (by first | rfl | assumption) rfl ?_
        first | refine wp_iinc2 (w := nI 1) (pc' := 42) rfl rfl rfl (by with_reducible exact nI_add _ _) rfl ?_ | refine wp_iinc2 (w := nI 1) (pc' := 42) rfl rfl rfl rfl rfl ?_
        refine wp_goto rfl ?_
        exact WP.cg (ih (i + 1) (by omega)) (lC1 (lI1 (by first | with_reducible rfl | (rw [cnP_s, if_pos h29]; done) | (rw [cnP_s, if_neg h29]; done)) (lI1 (by first | with_reducible rfl | (rw [cnP_s, if_pos h29]; done) | (rw [cnP_s, if_neg h29]; done)) rfl))) rfl (by rw [up2_upr]; exact congrArg (fun r => (K, upr I 331 r, L, R, n, s)) (cpy_up (f := (fun k => if fitB tv k (T / 2) = true then nI 1 else nI 0))))
      · intro h29
        refine wp_iconst (v := nI 1) (pc' := 33) rfl rfl rfl ?_
        refine wp_goto rfl ?_
        first | refine wp_iaddN (pc' := 38) rfl (by with_reducible rfl) (by with_reducible rfl) rfl ?_ | refine wp_iadd (pc' := 38) rfl rfl ?_
        refine wp_istore1 (pc' := 39) rfl (by first | rfl | assumption) rfl ?_
        first | refine wp_iinc2 (w := nI 1) (pc' := 42) rfl rfl rfl (by with_reducible exact nI_add _ _) rfl ?_ | refine wp_iinc2 (w := nI 1) (pc' := 42) rfl rfl rfl rfl rfl ?_
        refine wp_goto rfl ?_
        exact WP.cg (ih (i + 1) (by omega)) (lC1 (lI1 (by first | with_reducible rfl | (rw [cnP_s, if_pos h29]; done) | (rw [cnP_s, if_neg h29]; done)) (lI1 (by first | with_reducible rfl | (rw [cnP_s, if_pos h29]; done) | (rw [cnP_s, if_neg h29]; done)) rfl))) rfl (by rw [up2_upr]; exact congrArg (fun r => (K, upr I 331 r, L, R, n, s)) (cpy_up (f := (fun k => if fitB tv k (T / 2) = true then nI 1 else nI 0))))
  exact WP.cg (lp4 (2000 - (0)) (0) (by omega)) (lC1 (lI1 (by rfl) (lI1 (by rfl) rfl))) rfl (by rw [cpy_0, upr_id])
theorem m_falls1 {d : Nat} {K : Nat → Nat × Nat} {I : Nat → Nat → Int32} {L : Nat → Nat → Int64} {R : Nat → Nat → Option Nat} {n s : Nat} {Q : Lo → Lm → Prop} {T : Nat} {tv : Nat → Nat} (hT : TK K R n) (h9 : I 318 9 = nI T) (hT4 : T ≤ 400) (htp : TpW (I 324) tv) (hr : trB 100 10 tv T T = true) (kk : ∀ J, UsJ 0 I J → Q (.inl (some (.int (ffrom (fun k => fitB tv k (T / 2) = true) 2000 0)))) (K, J, L, R, n, s)) : Ok (d + 4) 323 [.ref 318, .int (nI 1)] (K, I, L, R, n, s) Q := by
  obtain ⟨-, -, hn⟩ := id hT
  refine Ok.enter (F := F_323) (ls := [.ref 318, .int (nI 1), lDead, lDead, lDead]) rfl rfl ?_
  refine wp_aload0 (pc' := 1) rfl rfl ?_
  refine wp_callV1 (pc' := 4) rfl rfl rfl rfl rfl (by first | exact TK.k1 hT rfl | exact TK.kk hT rfl | exact TK.r hT rfl | assumption) rfl rfl ?_
  refine m_usesN hT h9 (fun N hN => ?_)
  have htpN : TpW (N 324) tv := by rw [hN.1 324 (by decide)]; exact htp
  refine Cont.u ?_
  refine wp_aload0 (pc' := 5) rfl rfl ?_
  refine wp_aload0 (pc' := 6) rfl rfl ?_
  refine wp_callV1 (pc' := 9) rfl rfl rfl rfl rfl (by first | exact TK.k1 hT rfl | exact TK.kk hT rfl | exact TK.r hT rfl | assumption) rfl rfl ?_
  refine m_isFalls hT hN.2.2.2.2.1 hT4 htpN ?_
  rw [if_pos hr]
  refine Cont.v ?_
  refine wp_ifneT rfl (by decide) ?_
  refine wp_iconst (v := nI 0) (pc' := 17) rfl rfl rfl ?_
  refine wp_iconst (v := nI 1) (pc' := 18) rfl rfl rfl ?_
  refine wp_callV3 (pc' := 21) rfl rfl rfl rfl rfl (by first | exact TK.k1 hT rfl | exact TK.kk hT rfl | exact TK.r hT rfl | assumption) rfl rfl ?_
  refine m_tfN hT ?_
  refine Cont.v ?_
  refine wp_ifeqT rfl rfl ?_
  refine wp_aload0 (pc' := 27) rfl rfl ?_
  refine wp_callV1 (pc' := 30) rfl rfl rfl rfl rfl (by first | exact TK.k1 hT rfl | exact TK.kk hT rfl | exact TK.r hT rfl | assumption) rfl rfl ?_
  refine m_laysFalls hT hN.2.2.2.2.1 htpN hr ?_
  obtain ⟨M, hM⟩ : ∃ M, M = upr N 331 (cpy 2000 (fun k => if fitB tv k (T / 2) = true then nI 1 else nI 0) (N 331)) := ⟨_, rfl⟩
  rw [← hM]
  have hMa : ∀ a, a ≠ 331 → M a = N a := fun a ha => by rw [hM]; exact upr_ne ha
  have hMk : ∀ k, k < 2000 → M 331 k = if fitB tv k (T / 2) = true then nI 1 else nI 0 := fun k hk => by rw [hM, upr_same]; exact cpy_lt hk
  have hUJ : UsJ 0 I M := us_mk hN (fun a ha => hMa a (by omega))
  refine Cont.v ?_
  refine wp_istore2 (pc' := 31) rfl (by first | rfl | assumption) rfl ?_
  refine wp_iconst (v := (-1)) (pc' := 32) rfl rfl rfl ?_
  refine wp_istore3 (pc' := 33) rfl (by first | rfl | assumption) rfl ?_
  refine wp_sipush (v := nI 1999) (pc' := 36) rfl rfl rfl ?_
  refine wp_istore4 (pc' := 38) rfl (by first | rfl | assumption) rfl ?_
  have lp38 : ∀ r (i : Nat), i + r = 2000 → WP (d + 3) F_323 38 [.ref 318, .int (nI 1), .int (cnP (fun k => fitB tv k (T / 2) = true) 2000), .int (ffrom (fun k => fitB tv k (T / 2) = true) i (2000 - i)), .int (nI 1999 - nI i)] [] (K, M, L, R, n, s) Q := by
    intro r; induction r with
    | zero =>
      intro i hi 
      have hi2 : i = 2000 := by omega
      subst hi2
      refine wp_iload4 (pc' := 40) rfl rfl ?_
      refine wp_ifltT rfl (by decide) ?_
      refine wp_iload1 (pc' := 67) rfl rfl ?_
      refine wp_ifeqF (pc' := 70) rfl (by decide) rfl ?_
      refine wp_iload3 (pc' := 71) rfl rfl ?_
      refine wp_goto rfl ?_
      refine wp_iret rfl rfl rfl ?_
      exact kk M hUJ
    | succ r ih =>
      intro i hi 
      have hlt : i < 2000 := by omega
      rw [nI_sub (show i ≤ 1999 by omega)]
      have hD := d2000 ⟨i, by omega⟩
      have hQ : 1999 - i = 2000 - (i + 1) := by omega
      dsimp only at hD
      rw [hQ] at hD ⊢
      refine wp_iload4 (pc' := 40) rfl rfl ?_
      refine wp_ifltF (pc' := 43) rfl (nI_pos (by omega)) rfl ?_
      refine wp_aload0 (pc' := 44) rfl rfl ?_
      refine wp_getRF (pc' := 47) rfl rfl (by first | exact TK.k1 hT rfl | exact TK.kk hT rfl | exact TK.r hT rfl | assumption) (by first | exact TK.k1 hT rfl | exact TK.kk hT rfl | exact TK.r hT rfl | assumption) rfl ?_
      refine wp_iload4 (pc' := 49) rfl rfl ?_
      first | refine wp_bald _ (pc' := 50) rfl (by first | exact TK.k1 hT rfl | exact TK.kk hT rfl | exact TK.r hT rfl | assumption) (by with_reducible rfl) (by omega) (by first | decide | assumption | omega) rfl ?_ | refine wp_zald _ (pc' := 50) rfl (by first | exact TK.k1 hT rfl | exact TK.kk hT rfl | exact TK.r hT rfl | assumption) (by with_reducible rfl) (by omega) (by first | decide | assumption | omega) rfl ?_
      rw [hMk _ (by omega)]
      first | refine wp_ifeqB (pc' := 53) rfl rfl ?_ ?_ | refine wp_ifeq (pc' := 53) rfl rfl ?_ ?_
      · intro h50
        refine wp_iload3 (pc' := 59) rfl rfl ?_
        refine wp_istore3 (pc' := 60) rfl (by first | rfl | assumption) rfl ?_
        first | refine wp_iinc4 (w := (-1)) (pc' := 63) rfl rfl rfl (by with_reducible exact nI_sub1 (by omega)) rfl ?_ | refine wp_iinc4 (w := (-1)) (pc' := 63) rfl rfl rfl rfl rfl ?_
        refine wp_goto rfl ?_
        exact WP.cg (ih (i + 1) (by omega)) (lC1 (lI1 (by first | with_reducible rfl | with_reducible exact hD | (rw [ffrom_dn (show i < 2000 by omega), if_pos h50]; done) | (rw [ffrom_dn (show i < 2000 by omega), if_neg h50]; done)) (lI1 (by first | with_reducible rfl | with_reducible exact hD | (rw [ffrom_dn (show i < 2000 by omega), if_pos h50]; done) | (rw [ffrom_dn (show i < 2000 by omega), if_neg h50]; done)) (lI1 (by first | with_reducible rfl | with_reducible exact hD | (rw [ffrom_dn (show i < 2000 by omega), if_pos h50]; done) | (rw [ffrom_dn (show i < 2000 by omega), if_neg h50]; done)) (lI1 (by first | with_reducible rfl | with_reducible exact hD | (rw [ffrom_dn (show i < 2000 by omega), if_pos h50]; done) | (rw [ffrom_dn (show i < 2000 by omega), if_neg h50]; done)) rfl))))) rfl (by rfl)
      · intro h50
        refine wp_iload4 (pc' := 55) rfl rfl ?_
        refine wp_goto rfl ?_
        refine wp_istore3 (pc' := 60) rfl (by first | rfl | assumption) rfl ?_
        first | refine wp_iinc4 (w := (-1)) (pc' := 63) rfl rfl rfl (by with_reducible exact nI_sub1 (by omega)) rfl ?_ | refine wp_iinc4 (w := (-1)) (pc' := 63) rfl rfl rfl rfl rfl ?_
        refine wp_goto rfl ?_
        exact WP.cg (ih (i + 1) (by omega)) (lC1 (lI1 (by first | with_reducible rfl | with_reducible exact hD | (rw [ffrom_dn (show i < 2000 by omega), if_pos h50]; done) | (rw [ffrom_dn (show i < 2000 by omega), if_neg h50]; done)) (lI1 (by first | with_reducible rfl | with_reducible exact hD | (rw [ffrom_dn (show i < 2000 by omega), if_pos h50]; done) | (rw [ffrom_dn (show i < 2000 by omega), if_neg h50]; done)) (lI1 (by first | with_reducible rfl | with_reducible exact hD | (rw [ffrom_dn (show i < 2000 by omega), if_pos h50]; done) | (rw [ffrom_dn (show i < 2000 by omega), if_neg h50]; done)) (lI1 (by first | with_reducible rfl | with_reducible exact hD | (rw [ffrom_dn (show i < 2000 by omega), if_pos h50]; done) | (rw [ffrom_dn (show i < 2000 by omega), if_neg h50]; done)) rfl))))) rfl (by rfl)
  exact WP.cg (lp38 (2000 - (0)) (0) (by omega)) (lC1 (lI1 (by rfl) (lI1 (by rfl) (lI1 (by rfl) (lI1 (by rfl) rfl))))) rfl (by rfl)
theorem m_falls0 {d : Nat} {K : Nat → Nat × Nat} {I : Nat → Nat → Int32} {L : Nat → Nat → Int64} {R : Nat → Nat → Option Nat} {n s : Nat} {Q : Lo → Lm → Prop} {T : Nat} {tv : Nat → Nat} (hT : TK K R n) (h9 : I 318 9 = nI T) (hT4 : T ≤ 400) (htp : TpW (I 324) tv) (hr : trB 100 10 tv T T = true) (kk : ∀ J, UsJ 0 I J → Q (.inl (some (.int (cnP (fun k => fitB tv k (T / 2) = true) 2000)))) (K, J, L, R, n, s)) : Ok (d + 4) 323 [.ref 318, .int (nI 0)] (K, I, L, R, n, s) Q := by
  obtain ⟨-, -, hn⟩ := id hT
  refine Ok.enter (F := F_323) (ls := [.ref 318, .int (nI 0), lDead, lDead, lDead]) rfl rfl ?_
  refine wp_aload0 (pc' := 1) rfl rfl ?_
  refine wp_callV1 (pc' := 4) rfl rfl rfl rfl rfl (by first | exact TK.k1 hT rfl | exact TK.kk hT rfl | exact TK.r hT rfl | assumption) rfl rfl ?_
  refine m_usesN hT h9 (fun N hN => ?_)
  have htpN : TpW (N 324) tv := by rw [hN.1 324 (by decide)]; exact htp
  refine Cont.u ?_
  refine wp_aload0 (pc' := 5) rfl rfl ?_
  refine wp_aload0 (pc' := 6) rfl rfl ?_
  refine wp_callV1 (pc' := 9) rfl rfl rfl rfl rfl (by first | exact TK.k1 hT rfl | exact TK.kk hT rfl | exact TK.r hT rfl | assumption) rfl rfl ?_
  refine m_isFalls hT hN.2.2.2.2.1 hT4 htpN ?_
  rw [if_pos hr]
  refine Cont.v ?_
  refine wp_ifneT rfl (by decide) ?_
  refine wp_iconst (v := nI 0) (pc' := 17) rfl rfl rfl ?_
  refine wp_iconst (v := nI 1) (pc' := 18) rfl rfl rfl ?_
  refine wp_callV3 (pc' := 21) rfl rfl rfl rfl rfl (by first | exact TK.k1 hT rfl | exact TK.kk hT rfl | exact TK.r hT rfl | assumption) rfl rfl ?_
  refine m_tfN hT ?_
  refine Cont.v ?_
  refine wp_ifeqT rfl rfl ?_
  refine wp_aload0 (pc' := 27) rfl rfl ?_
  refine wp_callV1 (pc' := 30) rfl rfl rfl rfl rfl (by first | exact TK.k1 hT rfl | exact TK.kk hT rfl | exact TK.r hT rfl | assumption) rfl rfl ?_
  refine m_laysFalls hT hN.2.2.2.2.1 htpN hr ?_
  obtain ⟨M, hM⟩ : ∃ M, M = upr N 331 (cpy 2000 (fun k => if fitB tv k (T / 2) = true then nI 1 else nI 0) (N 331)) := ⟨_, rfl⟩
  rw [← hM]
  have hMa : ∀ a, a ≠ 331 → M a = N a := fun a ha => by rw [hM]; exact upr_ne ha
  have hMk : ∀ k, k < 2000 → M 331 k = if fitB tv k (T / 2) = true then nI 1 else nI 0 := fun k hk => by rw [hM, upr_same]; exact cpy_lt hk
  have hUJ : UsJ 0 I M := us_mk hN (fun a ha => hMa a (by omega))
  refine Cont.v ?_
  refine wp_istore2 (pc' := 31) rfl (by first | rfl | assumption) rfl ?_
  refine wp_iconst (v := (-1)) (pc' := 32) rfl rfl rfl ?_
  refine wp_istore3 (pc' := 33) rfl (by first | rfl | assumption) rfl ?_
  refine wp_sipush (v := nI 1999) (pc' := 36) rfl rfl rfl ?_
  refine wp_istore4 (pc' := 38) rfl (by first | rfl | assumption) rfl ?_
  have lp38 : ∀ r (i : Nat), i + r = 2000 → WP (d + 3) F_323 38 [.ref 318, .int (nI 0), .int (cnP (fun k => fitB tv k (T / 2) = true) 2000), .int (ffrom (fun k => fitB tv k (T / 2) = true) i (2000 - i)), .int (nI 1999 - nI i)] [] (K, M, L, R, n, s) Q := by
    intro r; induction r with
    | zero =>
      intro i hi 
      have hi2 : i = 2000 := by omega
      subst hi2
      refine wp_iload4 (pc' := 40) rfl rfl ?_
      refine wp_ifltT rfl (by decide) ?_
      refine wp_iload1 (pc' := 67) rfl rfl ?_
      refine wp_ifeqT rfl rfl ?_
      refine wp_iload2 (pc' := 75) rfl rfl ?_
      refine wp_iret rfl rfl rfl ?_
      exact kk M hUJ
    | succ r ih =>
      intro i hi 
      have hlt : i < 2000 := by omega
      rw [nI_sub (show i ≤ 1999 by omega)]
      have hD := d2000 ⟨i, by omega⟩
      have hQ : 1999 - i = 2000 - (i + 1) := by omega
      dsimp only at hD
      rw [hQ] at hD ⊢
      refine wp_iload4 (pc' := 40) rfl rfl ?_
      refine wp_ifltF (pc' := 43) rfl (nI_pos (by omega)) rfl ?_
      refine wp_aload0 (pc' := 44) rfl rfl ?_
      refine wp_getRF (pc' := 47) rfl rfl (by first | exact TK.k1 hT rfl | exact TK.kk hT rfl | exact TK.r hT rfl | assumption) (by first | exact TK.k1 hT rfl | exact TK.kk hT rfl | exact TK.r hT rfl | assumption) rfl ?_
      refine wp_iload4 (pc' := 49) rfl rfl ?_
      first | refine wp_bald _ (pc' := 50) rfl (by first | exact TK.k1 hT rfl | exact TK.kk hT rfl | exact TK.r hT rfl | assumption) (by with_reducible rfl) (by omega) (by first | decide | assumption | omega) rfl ?_ | refine wp_zald _ (pc' := 50) rfl (by first | exact TK.k1 hT rfl | exact TK.kk hT rfl | exact TK.r hT rfl | assumption) (by with_reducible rfl) (by omega) (by first | decide | assumption | omega) rfl ?_
      rw [hMk _ (by omega)]
      first | refine wp_ifeqB (pc' := 53) rfl rfl ?_ ?_ | refine wp_ifeq (pc' := 53) rfl rfl ?_ ?_
      · intro h50
        refine wp_iload3 (pc' := 59) rfl rfl ?_
        refine wp_istore3 (pc' := 60) rfl (by first | rfl | assumption) rfl ?_
        first | refine wp_iinc4 (w := (-1)) (pc' := 63) rfl rfl rfl (by with_reducible exact nI_sub1 (by omega)) rfl ?_ | refine wp_iinc4 (w := (-1)) (pc' := 63) rfl rfl rfl rfl rfl ?_
        refine wp_goto rfl ?_
        exact WP.cg (ih (i + 1) (by omega)) (lC1 (lI1 (by first | with_reducible rfl | with_reducible exact hD | (rw [ffrom_dn (show i < 2000 by omega), if_pos h50]; done) | (rw [ffrom_dn (show i < 2000 by omega), if_neg h50]; done)) (lI1 (by first | with_reducible rfl | with_reducible exact hD | (rw [ffrom_dn (show i < 2000 by omega), if_pos h50]; done) | (rw [ffrom_dn (show i < 2000 by omega), if_neg h50]; done)) (lI1 (by first | with_reducible rfl | with_reducible exact hD | (rw [ffrom_dn (show i < 2000 by omega), if_pos h50]; done) | (rw [ffrom_dn (show i < 2000 by omega), if_neg h50]; done)) (lI1 (by first | with_reducible rfl | with_reducible exact hD | (rw [ffrom_dn (show i < 2000 by omega), if_pos h50]; done) | (rw [ffrom_dn (show i < 2000 by omega), if_neg h50]; done)) rfl))))) rfl (by rfl)
      · intro h50
        refine wp_iload4 (pc' := 55) rfl rfl ?_
        refine wp_goto rfl ?_
        refine wp_istore3 (pc' := 60) rfl (by first | rfl | assumption) rfl ?_
        first | refine wp_iinc4 (w := (-1)) (pc' := 63) rfl rfl rfl (by with_reducible exact nI_sub1 (by omega)) rfl ?_ | refine wp_iinc4 (w := (-1)) (pc' := 63) rfl rfl rfl rfl rfl ?_
        refine wp_goto rfl ?_
        exact WP.cg (ih (i + 1) (by omega)) (lC1 (lI1 (by first | with_reducible rfl | with_reducible exact hD | (rw [ffrom_dn (show i < 2000 by omega), if_pos h50]; done) | (rw [ffrom_dn (show i < 2000 by omega), if_neg h50]; done)) (lI1 (by first | with_reducible rfl | with_reducible exact hD | (rw [ffrom_dn (show i < 2000 by omega), if_pos h50]; done) | (rw [ffrom_dn (show i < 2000 by omega), if_neg h50]; done)) (lI1 (by first | with_reducible rfl | with_reducible exact hD | (rw [ffrom_dn (show i < 2000 by omega), if_pos h50]; done) | (rw [ffrom_dn (show i < 2000 by omega), if_neg h50]; done)) (lI1 (by first | with_reducible rfl | with_reducible exact hD | (rw [ffrom_dn (show i < 2000 by omega), if_pos h50]; done) | (rw [ffrom_dn (show i < 2000 by omega), if_neg h50]; done)) rfl))))) rfl (by rfl)
  exact WP.cg (lp38 (2000 - (0)) (0) (by omega)) (lC1 (lI1 (by rfl) (lI1 (by rfl) (lI1 (by rfl) (lI1 (by rfl) rfl))))) rfl (by rfl)
theorem m_partBy {d : Nat} {K : Nat → Nat × Nat} {I : Nat → Nat → Int32} {L : Nat → Nat → Int64} {R : Nat → Nat → Option Nat} {n s : Nat} {Q : Lo → Lm → Prop} {T e : Nat} {tv : Nat → Nat} (hT : TK K R n) (he : e < 100) (hfk : ∀ k, k < 2000 → I 331 k = if fitB tv k (T / 2) = true then nI 1 else nI 0) (kk : ∀ V, Q (.inl (some (.int (nI (mxP (fun k => fitB tv k (T / 2)) (fun k => wbN k e) 2000))))) (K, upr I 332 V, L, R, n, s)) : Ok (d + 2) 329 [.ref 318, .int (nI e)] (K, I, L, R, n, s) Q := by
  obtain ⟨-, -, hn⟩ := id hT
  refine Ok.enter (F := F_329) (ls := [.ref 318, .int (nI e), lDead, lDead, lDead]) rfl rfl ?_
  refine wp_iconst (v := nI 0) (pc' := 1) rfl rfl rfl ?_
  refine wp_istore2 (pc' := 2) rfl (by first | rfl | assumption) rfl ?_
  have lp2 : ∀ r (i : Nat) (V : Nat → Int32) (v3 : Value) (v4 : Value), i + r = 10 → (∀ l, l < i → V l = nI 0) → isL v3 = false → isL v4 = false → WP (d + 1) F_329 2 [.ref 318, .int (nI e), .int (nI i), v3, v4] [] (K, upr I 332 V, L, R, n, s) Q := by
    intro r; induction r with
    | zero =>
      intro i V v3 v4 hi hv0 hv1 hv2
      have hi2 : i = 10 := by omega
      subst hi2
      refine wp_iload2 (pc' := 3) rfl rfl ?_
      refine wp_bipush (v := nI 9) (pc' := 5) rfl rfl rfl ?_
      refine wp_icmpgtT rfl (nI_lt (by omega) (by omega)) ?_
      refine wp_iconst (v := nI 0) (pc' := 22) rfl rfl rfl ?_
      refine wp_istore2 (pc' := 23) rfl (by first | rfl | assumption) rfl ?_
      refine wp_iconst (v := nI 0) (pc' := 24) rfl rfl rfl ?_
      refine wp_istore3 (pc' := 25) rfl (by first | rfl | assumption) rfl ?_
      have lp25 : ∀ rb (i : Nat) (V : Nat → Int32) (v4 : Value), i + rb = 2000 → (∀ l, l < 10 → V l = nI (cnL (fun k => fitB tv k (T / 2)) (fun k => wbN k e) l i)) → isL v4 = false → WP (d + 1) F_329 25 [.ref 318, .int (nI e), .int (nI (mxP (fun k => fitB tv k (T / 2)) (fun k => wbN k e) i)), .int (nI i), v4] [] (K, upr I 332 V, L, R, n, s) Q := by
        intro rb; induction rb with
        | zero =>
          intro i V v4 hib hvb0 hvb1
          have hi2b : i = 2000 := by omega
          subst hi2b
          refine wp_iload3 (pc' := 26) rfl rfl ?_
          refine wp_sipush (v := nI 2000) (pc' := 29) rfl rfl rfl ?_
          refine wp_icmpgeT rfl (nI_nlt (by omega) (by omega)) ?_
          refine wp_iload2 (pc' := 81) rfl rfl ?_
          refine wp_iret rfl rfl rfl ?_
          exact kk V
        | succ rb ihb =>
          intro i V v4 hib hvb0 hvb1
          have hltb : i < 2000 := by omega
          have hcl := cnL_le (p := (fun k => fitB tv k (T / 2))) (f := (fun k => wbN k e)) (l := wbN i e) i
          have hml := mxP_le (p := (fun k => fitB tv k (T / 2))) (f := (fun k => wbN k e)) i
          refine wp_iload3 (pc' := 26) rfl rfl ?_
          refine wp_sipush (v := nI 2000) (pc' := 29) rfl rfl rfl ?_
          refine wp_icmpgeF (pc' := 32) rfl (nI_lt (by omega) (by omega)) rfl ?_
          refine wp_aload0 (pc' := 33) rfl rfl ?_
          refine wp_getRF (pc' := 36) rfl rfl (by first | exact TK.k1 hT rfl | exact TK.kk hT rfl | exact TK.r hT rfl | assumption) (by first | exact TK.k1 hT rfl | exact TK.kk hT rfl | exact TK.r hT rfl | assumption) rfl ?_
          refine wp_iload3 (pc' := 37) rfl rfl ?_
          first | refine wp_bald _ (pc' := 38) rfl (by first | exact TK.k1 hT rfl | exact TK.kk hT rfl | exact TK.r hT rfl | assumption) (by with_reducible rfl) (by omega) (by first | decide | assumption | omega) rfl ?_ | refine wp_zald _ (pc' := 38) rfl (by first | exact TK.k1 hT rfl | exact TK.kk hT rfl | exact TK.r hT rfl | assumption) (by with_reducible rfl) (by omega) (by first | decide | assumption | omega) rfl ?_
          rw [upr_ne (show (331 : Nat) ≠ 332 by decide), hfk _ (by omega)]
          first | refine wp_ifneB (pc' := 41) rfl rfl ?_ ?_ | refine wp_ifne (pc' := 41) rfl rfl ?_ ?_
          · intro h38
            refine wp_iload3 (pc' := 45) rfl rfl ?_
            refine wp_iload1 (pc' := 46) rfl rfl ?_
            refine wp_callS2 (pc' := 49) rfl rfl rfl rfl rfl rfl ?_
            refine m_waterBy (by omega) (by omega) ?_
            have hwl := wbN_lt (k := i) (e := e) (by omega)
            refine Cont.v ?_
            refine wp_istore4 (pc' := 51) rfl (by first | rfl | assumption) rfl ?_
            refine wp_aload0 (pc' := 52) rfl rfl ?_
            refine wp_getRF (pc' := 55) rfl rfl (by first | exact TK.k1 hT rfl | exact TK.kk hT rfl | exact TK.r hT rfl | assumption) (by first | exact TK.k1 hT rfl | exact TK.kk hT rfl | exact TK.r hT rfl | assumption) rfl ?_
            refine wp_iload4 (pc' := 57) rfl rfl ?_
            refine wp_dup2 (pc' := 58) rfl rfl rfl rfl ?_
            refine wp_iald _ (pc' := 59) rfl (by first | exact TK.k1 hT rfl | exact TK.kk hT rfl | exact TK.r hT rfl | assumption) (by with_reducible rfl) (by omega) (by first | decide | assumption | omega) rfl ?_
            rw [upr_same, hvb0 _ (by omega)]
            refine wp_iconst (v := nI 1) (pc' := 60) rfl rfl rfl ?_
            first | refine wp_iaddN (pc' := 61) rfl (by with_reducible rfl) (by with_reducible rfl) rfl ?_ | refine wp_iadd (pc' := 61) rfl rfl ?_
            refine wp_iast _ (pc' := 62) rfl (by first | exact TK.k1 hT rfl | exact TK.kk hT rfl | exact TK.r hT rfl | assumption) (by omega) (by with_reducible rfl) (by omega) (by first | decide | assumption | omega) rfl ?_
            refine wp_iload2 (pc' := 63) rfl rfl ?_
            refine wp_aload0 (pc' := 64) rfl rfl ?_
            refine wp_getRF (pc' := 67) rfl rfl (by first | exact TK.k1 hT rfl | exact TK.kk hT rfl | exact TK.r hT rfl | assumption) (by first | exact TK.k1 hT rfl | exact TK.kk hT rfl | exact TK.r hT rfl | assumption) rfl ?_
            refine wp_iload4 (pc' := 69) rfl rfl ?_
            refine wp_iald _ (pc' := 70) rfl (by first | exact TK.k1 hT rfl | exact TK.kk hT rfl | exact TK.r hT rfl | assumption) (by with_reducible rfl) (by omega) (by first | decide | assumption | omega) rfl ?_
            rw [up2_hit]
            refine wp_max (pc' := 73) rfl rfl rfl rfl ?_
            refine wp_istore2 (pc' := 74) rfl (by first | rfl | assumption) rfl ?_
            first | refine wp_iinc3 (w := nI 1) (pc' := 77) rfl rfl rfl (by with_reducible exact nI_add _ _) rfl ?_ | refine wp_iinc3 (w := nI 1) (pc' := 77) rfl rfl rfl rfl rfl ?_
            refine wp_goto rfl ?_
            exact WP.cg (ihb (i + 1) _ _ (by omega) (by first | exact cnV_n hvb0 h38 | exact cnV_s hvb0 h38) (by first | rfl | assumption)) (lC1 (lI1 (by first | with_reducible rfl | (rw [mxP_s, if_neg h38]; done) | (rw [mxP_s, if_pos h38, nI_max (by omega) (by omega), cnL_s, if_pos (And.intro h38 rfl)]; done)) (lI1 (by first | with_reducible rfl | (rw [mxP_s, if_neg h38]; done) | (rw [mxP_s, if_pos h38, nI_max (by omega) (by omega), cnL_s, if_pos (And.intro h38 rfl)]; done)) (lI1 (by first | with_reducible rfl | (rw [mxP_s, if_neg h38]; done) | (rw [mxP_s, if_pos h38, nI_max (by omega) (by omega), cnL_s, if_pos (And.intro h38 rfl)]; done)) (lC1 rfl))))) rfl (by first | with_reducible rfl | (rw [up2_upr]; done))
          · intro h38
            refine wp_goto rfl ?_
            first | refine wp_iinc3 (w := nI 1) (pc' := 77) rfl rfl rfl (by with_reducible exact nI_add _ _) rfl ?_ | refine wp_iinc3 (w := nI 1) (pc' := 77) rfl rfl rfl rfl rfl ?_
            refine wp_goto rfl ?_
            exact WP.cg (ihb (i + 1) _ _ (by omega) (by first | exact cnV_n hvb0 h38 | exact cnV_s hvb0 h38) (by first | rfl | assumption)) (lC1 (lI1 (by first | with_reducible rfl | (rw [mxP_s, if_neg h38]; done) | (rw [mxP_s, if_pos h38, nI_max (by omega) (by omega), cnL_s, if_pos (And.intro h38 rfl)]; done)) (lI1 (by first | with_reducible rfl | (rw [mxP_s, if_neg h38]; done) | (rw [mxP_s, if_pos h38, nI_max (by omega) (by omega), cnL_s, if_pos (And.intro h38 rfl)]; done)) (lI1 (by first | with_reducible rfl | (rw [mxP_s, if_neg h38]; done) | (rw [mxP_s, if_pos h38, nI_max (by omega) (by omega), cnL_s, if_pos (And.intro h38 rfl)]; done)) (lC1 rfl))))) rfl (by first | with_reducible rfl | (rw [up2_upr]; done))
      exact WP.cg (lp25 (2000 - (0)) (0) V _ (by omega) hv0 (by first | rfl | assumption)) (lC1 (lI1 (by rfl) (lI1 (by rfl) (lI1 (by rfl) (lC1 rfl))))) rfl (by rfl)
    | succ r ih =>
      intro i V v3 v4 hi hv0 hv1 hv2
      have hlt : i < 10 := by omega
      refine wp_iload2 (pc' := 3) rfl rfl ?_
      refine wp_bipush (v := nI 9) (pc' := 5) rfl rfl rfl ?_
      refine wp_icmpgtF (pc' := 8) rfl (nI_nlt (by omega) (by omega)) rfl ?_
      refine wp_aload0 (pc' := 9) rfl rfl ?_
      refine wp_getRF (pc' := 12) rfl rfl (by first | exact TK.k1 hT rfl | exact TK.kk hT rfl | exact TK.r hT rfl | assumption) (by first | exact TK.k1 hT rfl | exact TK.kk hT rfl | exact TK.r hT rfl | assumption) rfl ?_
      refine wp_iload2 (pc' := 13) rfl rfl ?_
      refine wp_iconst (v := nI 0) (pc' := 14) rfl rfl rfl ?_
      refine wp_iast _ (pc' := 15) rfl (by first | exact TK.k1 hT rfl | exact TK.kk hT rfl | exact TK.r hT rfl | assumption) (by omega) (by with_reducible rfl) (by omega) (by first | decide | assumption | omega) rfl ?_
      first | refine wp_iinc2 (w := nI 1) (pc' := 18) rfl rfl rfl (by with_reducible exact nI_add _ _) rfl ?_ | refine wp_iinc2 (w := nI 1) (pc' := 18) rfl rfl rfl rfl rfl ?_
      refine wp_goto rfl ?_
      exact WP.cg (ih (i + 1) (up1 V i (nI 0)) _ _ (by omega) (up1_ext (p := fun _ => nI 0) hv0) (by first | rfl | assumption) (by first | rfl | assumption)) (lC1 (lI1 (by rfl) (lI1 (by rfl) (lC1 (lC1 rfl))))) rfl (by rw [up2_upr])
  exact WP.cg (lp2 (10 - (0)) (0) (I 332) _ _ (by omega) (fun l hl => absurd hl (Nat.not_lt_zero l)) (by first | rfl | assumption) (by first | rfl | assumption)) (lC1 (lI1 (by rfl) (lI1 (by rfl) (lC1 (lC1 rfl))))) rfl (by rw [upr_id])
theorem m_ask {d : Nat} {K : Nat → Nat × Nat} {I : Nat → Nat → Int32} {L : Nat → Nat → Int64} {R : Nat → Nat → Option Nat} {n s : Nat} {Q : Lo → Lm → Prop} {T : Nat} {tv : Nat → Nat} (hT : TK K R n) (h9 : I 318 9 = nI T) (hT4 : T ≤ 400) (htp : TpW (I 324) tv) (hr : trB 100 10 tv T T = true) (kk : ∀ J, UsJ 0 I J → Q (.inl (some (.int (if nI 1 < (cnP (fun k => fitB tv k (T / 2) = true) 2000) then (lkG (fun e => nI (mxP (fun k => fitB tv k (T / 2)) (fun k => wbN k e) 2000)) (nI 100000000) 100).1 else -1)))) (K, J, L, R, n, s)) : Ok (d + 4) 328 [.ref 318] (K, I, L, R, n, s) Q := by
  obtain ⟨-, -, hn⟩ := id hT
  refine Ok.enter (F := F_328) (ls := [.ref 318, lDead, lDead, lDead, lDead, lDead]) rfl rfl ?_
  refine wp_aload0 (pc' := 1) rfl rfl ?_
  refine wp_callV1 (pc' := 4) rfl rfl rfl rfl rfl (by first | exact TK.k1 hT rfl | exact TK.kk hT rfl | exact TK.r hT rfl | assumption) rfl rfl ?_
  refine m_usesN hT h9 (fun N hN => ?_)
  have htpN : TpW (N 324) tv := by rw [hN.1 324 (by decide)]; exact htp
  refine Cont.u ?_
  refine wp_aload0 (pc' := 5) rfl rfl ?_
  refine wp_aload0 (pc' := 6) rfl rfl ?_
  refine wp_callV1 (pc' := 9) rfl rfl rfl rfl rfl (by first | exact TK.k1 hT rfl | exact TK.kk hT rfl | exact TK.r hT rfl | assumption) rfl rfl ?_
  refine m_isFalls hT hN.2.2.2.2.1 hT4 htpN ?_
  rw [if_pos hr]
  refine Cont.v ?_
  refine wp_ifneT rfl (by decide) ?_
  refine wp_iconst (v := nI 0) (pc' := 17) rfl rfl rfl ?_
  refine wp_iconst (v := nI 1) (pc' := 18) rfl rfl rfl ?_
  refine wp_callV3 (pc' := 21) rfl rfl rfl rfl rfl (by first | exact TK.k1 hT rfl | exact TK.kk hT rfl | exact TK.r hT rfl | assumption) rfl rfl ?_
  refine m_tfN hT ?_
  refine Cont.v ?_
  refine wp_ifeqT rfl rfl ?_
  refine wp_aload0 (pc' := 27) rfl rfl ?_
  refine wp_callV1 (pc' := 30) rfl rfl rfl rfl rfl (by first | exact TK.k1 hT rfl | exact TK.kk hT rfl | exact TK.r hT rfl | assumption) rfl rfl ?_
  refine m_laysFalls hT hN.2.2.2.2.1 htpN hr ?_
  obtain ⟨M, hM⟩ : ∃ M, M = upr N 331 (cpy 2000 (fun k => if fitB tv k (T / 2) = true then nI 1 else nI 0) (N 331)) := ⟨_, rfl⟩
  rw [← hM]
  have hMa : ∀ a, a ≠ 331 → M a = N a := fun a ha => by rw [hM]; exact upr_ne ha
  have hMk : ∀ k, k < 2000 → M 331 k = if fitB tv k (T / 2) = true then nI 1 else nI 0 := fun k hk => by rw [hM, upr_same]; exact cpy_lt hk
  have hUJ : UsJ 0 I M := us_mk hN (fun a ha => hMa a (by omega))
  refine Cont.v ?_
  refine wp_istore1 (pc' := 31) rfl (by first | rfl | assumption) rfl ?_
  refine wp_iconst (v := (-1)) (pc' := 32) rfl rfl rfl ?_
  refine wp_istore2 (pc' := 33) rfl (by first | rfl | assumption) rfl ?_
  refine wp_pool (v := .int (nI 100000000)) (pc' := 35) rfl rfl rfl rfl rfl ?_
  refine wp_istore3 (pc' := 36) rfl (by first | rfl | assumption) rfl ?_
  refine wp_iconst (v := nI 0) (pc' := 37) rfl rfl rfl ?_
  refine wp_istore4 (pc' := 39) rfl (by first | rfl | assumption) rfl ?_
  have lp39 : ∀ r (i : Nat) (V : Nat → Int32) (v5 : Value), i + r = 100 → (i = 0 ∨ nI 1 < (cnP (fun k => fitB tv k (T / 2) = true) 2000)) → isL v5 = false → WP (d + 3) F_328 39 [.ref 318, .int (cnP (fun k => fitB tv k (T / 2) = true) 2000), .int (lkG (fun e => nI (mxP (fun k => fitB tv k (T / 2)) (fun k => wbN k e) 2000)) (nI 100000000) i).1, .int (lkG (fun e => nI (mxP (fun k => fitB tv k (T / 2)) (fun k => wbN k e) 2000)) (nI 100000000) i).2, .int (nI i), v5] [] (K, upr M 332 V, L, R, n, s) Q := by
    intro r; induction r with
    | zero =>
      intro i V v5 hi hv0 hv1
      have hi2 : i = 100 := by omega
      subst hi2
      refine wp_iload4 (pc' := 41) rfl rfl ?_
      refine wp_bipush (v := nI 99) (pc' := 43) rfl rfl rfl ?_
      refine wp_icmpgtT rfl (nI_lt (by omega) (by omega)) ?_
      refine wp_iload2 (pc' := 86) rfl rfl ?_
      refine wp_iret rfl rfl rfl ?_
      have hUV : UsJ 0 I (upr M 332 V) := us_mk hN (fun a ha => (upr_ne (by omega)).trans (hMa a (by omega)))
      first | exact Qv (kk _ hUV) (by rw [if_pos (hv0.resolve_left (by decide))]) rfl | exact Qv (kk _ hUV) (by rw [if_neg h48, show i = 0 from hv0.resolve_right h48]; rfl) rfl
    | succ r ih =>
      intro i V v5 hi hv0 hv1
      have hlt : i < 100 := by omega
      refine wp_iload4 (pc' := 41) rfl rfl ?_
      refine wp_bipush (v := nI 99) (pc' := 43) rfl rfl rfl ?_
      refine wp_icmpgtF (pc' := 46) rfl (nI_nlt (by omega) (by omega)) rfl ?_
      refine wp_iload1 (pc' := 47) rfl rfl ?_
      refine wp_iconst (v := nI 1) (pc' := 48) rfl rfl rfl ?_
      refine wp_icmple (pc' := 51) rfl rfl ?_ ?_
      · intro h48
        refine wp_iload2 (pc' := 86) rfl rfl ?_
        refine wp_iret rfl rfl rfl ?_
        have hUV : UsJ 0 I (upr M 332 V) := us_mk hN (fun a ha => (upr_ne (by omega)).trans (hMa a (by omega)))
        first | exact Qv (kk _ hUV) (by rw [if_pos (hv0.resolve_left (by decide))]) rfl | exact Qv (kk _ hUV) (by rw [if_neg h48, show i = 0 from hv0.resolve_right h48]; rfl) rfl
      · intro h48
        refine wp_aload0 (pc' := 52) rfl rfl ?_
        refine wp_iload4 (pc' := 54) rfl rfl ?_
        refine wp_callV2 (pc' := 57) rfl rfl rfl rfl rfl (by first | exact TK.k1 hT rfl | exact TK.kk hT rfl | exact TK.r hT rfl | assumption) rfl rfl ?_
        refine m_partBy (T := T) (tv := tv) hT (by omega) (fun k hk => by rw [upr_ne (by decide)]; exact hMk k hk) (fun V2 => ?_)
        rw [upr_upr]
        refine Cont.v ?_
        refine wp_istore5 (pc' := 59) rfl (by first | rfl | assumption) rfl ?_
        refine wp_iload5 (pc' := 61) rfl rfl ?_
        refine wp_iload3 (pc' := 62) rfl rfl ?_
        refine wp_icmpge (pc' := 65) rfl rfl ?_ ?_
        · intro h62
          refine wp_iload2 (pc' := 71) rfl rfl ?_
          refine wp_istore2 (pc' := 72) rfl (by first | rfl | assumption) rfl ?_
          refine wp_iload3 (pc' := 73) rfl rfl ?_
          refine wp_iload5 (pc' := 75) rfl rfl ?_
          refine wp_min (pc' := 78) rfl rfl rfl rfl ?_
          refine wp_istore3 (pc' := 79) rfl (by first | rfl | assumption) rfl ?_
          first | refine wp_iinc4 (w := nI 1) (pc' := 82) rfl rfl rfl (by with_reducible exact nI_add _ _) rfl ?_ | refine wp_iinc4 (w := nI 1) (pc' := 82) rfl rfl rfl rfl rfl ?_
          refine wp_goto rfl ?_
          exact WP.cg (ih (i + 1) V2 _ (by omega) (Or.inr h48) (by first | rfl | assumption)) (lC1 (lI1 (by first | with_reducible rfl | (rw [lkG_s, lkU, if_pos h62]; done) | (rw [lkG_s, lkU, if_neg h62]; done) | (rw [lkG_s, lkU]; done)) (lI1 (by first | with_reducible rfl | (rw [lkG_s, lkU, if_pos h62]; done) | (rw [lkG_s, lkU, if_neg h62]; done) | (rw [lkG_s, lkU]; done)) (lI1 (by first | with_reducible rfl | (rw [lkG_s, lkU, if_pos h62]; done) | (rw [lkG_s, lkU, if_neg h62]; done) | (rw [lkG_s, lkU]; done)) (lI1 (by first | with_reducible rfl | (rw [lkG_s, lkU, if_pos h62]; done) | (rw [lkG_s, lkU, if_neg h62]; done) | (rw [lkG_s, lkU]; done)) (lC1 rfl)))))) rfl (by rfl)
        · intro h62
          refine wp_iload4 (pc' := 67) rfl rfl ?_
          refine wp_goto rfl ?_
          refine wp_istore2 (pc' := 72) rfl (by first | rfl | assumption) rfl ?_
          refine wp_iload3 (pc' := 73) rfl rfl ?_
          refine wp_iload5 (pc' := 75) rfl rfl ?_
          refine wp_min (pc' := 78) rfl rfl rfl rfl ?_
          refine wp_istore3 (pc' := 79) rfl (by first | rfl | assumption) rfl ?_
          first | refine wp_iinc4 (w := nI 1) (pc' := 82) rfl rfl rfl (by with_reducible exact nI_add _ _) rfl ?_ | refine wp_iinc4 (w := nI 1) (pc' := 82) rfl rfl rfl rfl rfl ?_
          refine wp_goto rfl ?_
          exact WP.cg (ih (i + 1) V2 _ (by omega) (Or.inr h48) (by first | rfl | assumption)) (lC1 (lI1 (by first | with_reducible rfl | (rw [lkG_s, lkU, if_pos h62]; done) | (rw [lkG_s, lkU, if_neg h62]; done) | (rw [lkG_s, lkU]; done)) (lI1 (by first | with_reducible rfl | (rw [lkG_s, lkU, if_pos h62]; done) | (rw [lkG_s, lkU, if_neg h62]; done) | (rw [lkG_s, lkU]; done)) (lI1 (by first | with_reducible rfl | (rw [lkG_s, lkU, if_pos h62]; done) | (rw [lkG_s, lkU, if_neg h62]; done) | (rw [lkG_s, lkU]; done)) (lI1 (by first | with_reducible rfl | (rw [lkG_s, lkU, if_pos h62]; done) | (rw [lkG_s, lkU, if_neg h62]; done) | (rw [lkG_s, lkU]; done)) (lC1 rfl)))))) rfl (by rfl)
  exact WP.cg (lp39 (100 - (0)) (0) (M 332) _ (by omega) (Or.inl rfl) (by first | rfl | assumption)) (lC1 (lI1 (by rfl) (lI1 (by rfl) (lI1 (by rfl) (lI1 (by rfl) (lC1 rfl)))))) rfl (by rw [upr_id])
theorem m_fallsE {d : Nat} {K : Nat → Nat × Nat} {I : Nat → Nat → Int32} {L : Nat → Nat → Int64} {R : Nat → Nat → Option Nat} {n s : Nat} {Q : Lo → Lm → Prop} {T : Nat} {tv : Nat → Nat} {y : Int32} (hT : TK K R n) (h9 : I 318 9 = nI T) (hT4 : T ≤ 400) (htp : TpW (I 324) tv) (hr : trB 100 10 tv T T = false) (kk : ∀ J, UsJ 1 I J → Q (.inl (some (.int (nI 0)))) (K, J, L, R, n, s)) : Ok (d + 4) 323 [.ref 318, .int y] (K, I, L, R, n, s) Q := by
  obtain ⟨-, -, hn⟩ := id hT
  refine Ok.enter (F := F_323) (ls := [.ref 318, .int y, lDead, lDead, lDead]) rfl rfl ?_
  refine wp_aload0 (pc' := 1) rfl rfl ?_
  refine wp_callV1 (pc' := 4) rfl rfl rfl rfl rfl (by first | exact TK.k1 hT rfl | exact TK.kk hT rfl | exact TK.r hT rfl | assumption) rfl rfl ?_
  refine m_usesN hT h9 (fun N hN => ?_)
  have htpN : TpW (N 324) tv := by rw [hN.1 324 (by decide)]; exact htp
  refine Cont.u ?_
  refine wp_aload0 (pc' := 5) rfl rfl ?_
  refine wp_aload0 (pc' := 6) rfl rfl ?_
  refine wp_callV1 (pc' := 9) rfl rfl rfl rfl rfl (by first | exact TK.k1 hT rfl | exact TK.kk hT rfl | exact TK.r hT rfl | assumption) rfl rfl ?_
  refine m_isFalls hT hN.2.2.2.2.1 hT4 htpN ?_
  rw [if_neg (by rw [hr]; decide)]
  refine Cont.v ?_
  refine wp_ifneF (pc' := 12) rfl rfl rfl ?_
  refine wp_iconst (v := nI 1) (pc' := 13) rfl rfl rfl ?_
  refine wp_goto rfl ?_
  refine wp_iconst (v := nI 1) (pc' := 18) rfl rfl rfl ?_
  refine wp_callV3 (pc' := 21) rfl rfl rfl rfl rfl (by first | exact TK.k1 hT rfl | exact TK.kk hT rfl | exact TK.r hT rfl | assumption) rfl rfl ?_
  refine m_tfY hT ?_
  refine Cont.v ?_
  refine wp_ifeqF (pc' := 24) rfl (by decide) rfl ?_
  refine wp_iconst (v := nI 0) (pc' := 25) rfl rfl rfl ?_
  refine wp_iret rfl rfl rfl ?_
  exact kk _ (us_thr hN)
theorem m_askE {d : Nat} {K : Nat → Nat × Nat} {I : Nat → Nat → Int32} {L : Nat → Nat → Int64} {R : Nat → Nat → Option Nat} {n s : Nat} {Q : Lo → Lm → Prop} {T : Nat} {tv : Nat → Nat} (hT : TK K R n) (h9 : I 318 9 = nI T) (hT4 : T ≤ 400) (htp : TpW (I 324) tv) (hr : trB 100 10 tv T T = false) (kk : ∀ J, UsJ 1 I J → Q (.inl (some (.int (nI 0)))) (K, J, L, R, n, s)) : Ok (d + 4) 328 [.ref 318] (K, I, L, R, n, s) Q := by
  obtain ⟨-, -, hn⟩ := id hT
  refine Ok.enter (F := F_328) (ls := [.ref 318, lDead, lDead, lDead, lDead, lDead]) rfl rfl ?_
  refine wp_aload0 (pc' := 1) rfl rfl ?_
  refine wp_callV1 (pc' := 4) rfl rfl rfl rfl rfl (by first | exact TK.k1 hT rfl | exact TK.kk hT rfl | exact TK.r hT rfl | assumption) rfl rfl ?_
  refine m_usesN hT h9 (fun N hN => ?_)
  have htpN : TpW (N 324) tv := by rw [hN.1 324 (by decide)]; exact htp
  refine Cont.u ?_
  refine wp_aload0 (pc' := 5) rfl rfl ?_
  refine wp_aload0 (pc' := 6) rfl rfl ?_
  refine wp_callV1 (pc' := 9) rfl rfl rfl rfl rfl (by first | exact TK.k1 hT rfl | exact TK.kk hT rfl | exact TK.r hT rfl | assumption) rfl rfl ?_
  refine m_isFalls hT hN.2.2.2.2.1 hT4 htpN ?_
  rw [if_neg (by rw [hr]; decide)]
  refine Cont.v ?_
  refine wp_ifneF (pc' := 12) rfl rfl rfl ?_
  refine wp_iconst (v := nI 1) (pc' := 13) rfl rfl rfl ?_
  refine wp_goto rfl ?_
  refine wp_iconst (v := nI 1) (pc' := 18) rfl rfl rfl ?_
  refine wp_callV3 (pc' := 21) rfl rfl rfl rfl rfl (by first | exact TK.k1 hT rfl | exact TK.kk hT rfl | exact TK.r hT rfl | assumption) rfl rfl ?_
  refine m_tfY hT ?_
  refine Cont.v ?_
  refine wp_ifeqF (pc' := 24) rfl (by decide) rfl ?_
  refine wp_iconst (v := nI 0) (pc' := 25) rfl rfl rfl ?_
  refine wp_iret rfl rfl rfl ?_
  exact kk _ (us_thr hN)
