/-! THE REFERENCE: hearths two by two -/
abbrev lw6 (m : Nat) : Nat := lowF m 5 0
theorem lw6_ok : ∀ m : Fin 64, 1 ≤ m.1 → lw6 m.1 < 6 ∧ (nI m.1 ^^^ (-1)) &&& (nI m.1 - nI 1) = nI (2 ^ lw6 m.1 - 1) ∧ clr m.1 (lw6 m.1) < m.1 ∧ hasP (nI m.1) (lw6 m.1) := by decide +kernel
theorem clr_le : ∀ m : Fin 64, ∀ h : Fin 6, clr m.1 h.1 ≤ m.1 ∧ clr m.1 h.1 < 64 ∧ nI m.1 &&& (jshl (nI 1) (nI h.1) ^^^ (-1)) = nI (clr m.1 h.1) := by decide +kernel
theorem clr_has : ∀ m : Fin 64, ∀ h : Fin 6, ∀ g : Fin 6, hasP (nI (clr m.1 h.1)) g.1 ↔ (hasP (nI m.1) g.1 ∧ ¬ g.1 = h.1) := by decide +kernel
def ShW (w : Nat → Int32) (sh : Nat → Nat → Nat) : Prop := ∀ h g, h < 6 → g < 6 → popC (w (159 + 4 * h + 3) &&& w (159 + 4 * g + 3)) = nI (sh h g) ∧ sh h g ≤ 32
/-- a set's first hearth alone (0), or with another (g + 1) -/
def pbK (m k : Nat) : Prop := k = 0 ∨ hasP (nI (clr m (lw6 m))) (k - 1)
def pbN (sh : Nat → Nat → Nat) (P : Nat → Nat) (m k : Nat) : Nat := match k with
  | 0 => P (clr m (lw6 m))
  | g + 1 => if hasP (nI (clr m (lw6 m))) g then sh (lw6 m) g + P (clr (clr m (lw6 m)) g) else 0
theorem pbN_g {sh : Nat → Nat → Nat} {P : Nat → Nat} {m g : Nat} : pbN sh P m (g + 1) = if hasP (nI (clr m (lw6 m))) g then sh (lw6 m) g + P (clr (clr m (lw6 m)) g) else 0 := rfl
theorem k_m1 {k : Nat} : nI (k + 1) + (-1) = nI k := pk_m1 k
theorem k_inc {k : Nat} : nI k + (-1) + nI 1 = nI (k + 1) + (-1) := by
  rw [k_m1, Int32.add_assoc, show (-1 : Int32) + nI 1 = 0 from by decide, Int32.add_zero]
theorem k_lt : ∀ k : Fin 8, ∀ H : Fin 7, k.1 ≤ H.1 → nI k.1 + (-1) < nI H.1 := by decide +kernel
theorem k_nlt : ∀ H : Fin 7, ¬ nI (H.1 + 1) + (-1) < nI H.1 := by decide +kernel
/-- a row of numbers of sets -/
def PaR (V : Nat → Int32) (P : Nat → Nat) : Prop := ∀ m, m < 64 → V m = nI (P m) ∧ P m ≤ 100000
theorem pb_le {sh : Nat → Nat → Nat} {P : Nat → Nat} {V w : Nat → Int32} {m k : Nat} (hs : ShW w sh) (hp : PaR V P) (hm : m < 64) (hm1 : 1 ≤ m) (hk : k ≤ 6) : pbN sh P m k ≤ 100032 := by
  have h1 := (lw6_ok ⟨m, hm⟩ hm1).1
  have h2 := (lw6_ok ⟨m, hm⟩ hm1).2.2.1
  dsimp only at h1 h2
  cases k with
  | zero => have := (hp (clr m (lw6 m)) (by omega)).2; show P (clr m (lw6 m)) ≤ _; omega
  | succ g =>
    have h3 := (clr_le ⟨clr m (lw6 m), by omega⟩ ⟨g, by omega⟩).2.1
    dsimp only at h3
    have a1 := (hs (lw6 m) g h1 (by omega)).2
    have a2 := (hp (clr (clr m (lw6 m)) g) h3).2
    show (if hasP (nI (clr m (lw6 m))) g then sh (lw6 m) g + P (clr (clr m (lw6 m)) g) else 0) ≤ _
    split <;> omega

theorem m_firstOf {d : Nat} {K : Nat → Nat × Nat} {I : Nat → Nat → Int32} {L : Nat → Nat → Int64} {R : Nat → Nat → Option Nat} {n s : Nat} {Q : Lo → Lm → Prop} {m : Nat} (hm : m < 64) (hm1 : 1 ≤ m) (kk : Q (.inl (some (.int (nI (lw6 m))))) (K, I, L, R, n, s)) : Ok (d + 2) 347 [.int (nI m)] (K, I, L, R, n, s) Q := by
  refine Ok.enter (F := F_347) (ls := [.int (nI m)]) rfl rfl ?_
  refine wp_iload0 (pc' := 1) rfl rfl ?_
  refine wp_callS1 (pc' := 4) rfl rfl rfl rfl rfl rfl ?_
  refine m_ntz (c := lw6 m) (by have := (lw6_ok ⟨m, hm⟩ hm1).1; dsimp only at this; omega) (lw6_ok ⟨m, hm⟩ hm1).2.1 ?_
  refine Cont.v ?_
  refine wp_iret rfl rfl rfl ?_
  exact kk
theorem m_pb0 {d : Nat} {K : Nat → Nat × Nat} {I : Nat → Nat → Int32} {L : Nat → Nat → Int64} {R : Nat → Nat → Option Nat} {n s : Nat} {Q : Lo → Lm → Prop} {m : Nat} {sh : Nat → Nat → Nat} {P : Nat → Nat} (hT : TK K R n) (hs : ShW (I 319) sh) (hp : ∀ q, q < m → I 335 q = nI (P q)) (hm : m < 64) (hm1 : 1 ≤ m) (kk : Q (.inl (some (.int (nI (pbN sh P m 0))))) (K, I, L, R, n, s)) : Ok (d + 3) 346 [.ref 318, .int (nI m), .int (-1)] (K, I, L, R, n, s) Q := by
  obtain ⟨-, -, hn⟩ := id hT
  have hl6 := (lw6_ok ⟨m, hm⟩ hm1).1
  have hcl := (lw6_ok ⟨m, hm⟩ hm1).2.2.1
  have hcl2 := (clr_le ⟨m, hm⟩ ⟨lw6 m, hl6⟩).2.2
  dsimp only at hl6 hcl hcl2
  refine Ok.enter (F := F_346) (ls := [.ref 318, .int (nI m), .int (-1), lDead, lDead]) rfl rfl ?_
  refine wp_iload1 (pc' := 1) rfl rfl ?_
  refine wp_callS1 (pc' := 4) rfl rfl rfl rfl rfl rfl ?_
  refine m_firstOf hm hm1 ?_
  refine Cont.v ?_
  refine wp_istore3 (pc' := 5) rfl (by first | rfl | assumption) rfl ?_
  refine wp_iload1 (pc' := 6) rfl rfl ?_
  refine wp_iconst (v := nI 1) (pc' := 7) rfl rfl rfl ?_
  refine wp_iload3 (pc' := 8) rfl rfl ?_
  refine wp_ishl (pc' := 9) rfl rfl ?_
  refine wp_iconst (v := (-1)) (pc' := 10) rfl rfl rfl ?_
  refine wp_ixor (pc' := 11) rfl rfl ?_
  refine wp_iand (pc' := 12) rfl rfl ?_
  rw [hcl2]
  refine wp_istore4 (pc' := 14) rfl (by first | rfl | assumption) rfl ?_
  refine wp_iload2 (pc' := 15) rfl rfl ?_
  refine wp_iconst (v := (-1)) (pc' := 16) rfl rfl rfl ?_
  refine wp_icmpneF (pc' := 19) rfl rfl rfl ?_
  refine wp_aload0 (pc' := 20) rfl rfl ?_
  refine wp_getRF (pc' := 23) rfl rfl (by first | exact TK.k1 hT rfl | exact TK.kk hT rfl | exact TK.r hT rfl | assumption) (by first | exact TK.k1 hT rfl | exact TK.kk hT rfl | exact TK.r hT rfl | assumption) rfl ?_
  refine wp_iload4 (pc' := 25) rfl rfl ?_
  refine wp_iald _ (pc' := 26) rfl (by first | exact TK.k1 hT rfl | exact TK.kk hT rfl | exact TK.r hT rfl | assumption) (by with_reducible rfl) (by omega) (by first | decide | assumption | omega) rfl ?_
  rw [hp _ (by omega)]
  refine wp_iret rfl rfl rfl ?_
  exact kk
theorem m_pbG {d : Nat} {K : Nat → Nat × Nat} {I : Nat → Nat → Int32} {L : Nat → Nat → Int64} {R : Nat → Nat → Option Nat} {n s : Nat} {Q : Lo → Lm → Prop} {m g : Nat} {sh : Nat → Nat → Nat} {P : Nat → Nat} (hT : TK K R n) (hs : ShW (I 319) sh) (hp : ∀ q, q < m → I 335 q = nI (P q)) (hm : m < 64) (hm1 : 1 ≤ m) (hg : g < 6) (kk : Q (.inl (some (.int (if hasP (nI (clr m (lw6 m))) g then nI (pbN sh P m (g + 1)) else -1)))) (K, I, L, R, n, s)) : Ok (d + 3) 346 [.ref 318, .int (nI m), .int (nI g)] (K, I, L, R, n, s) Q := by
  obtain ⟨-, -, hn⟩ := id hT
  have hl6 := (lw6_ok ⟨m, hm⟩ hm1).1
  have hcl := (lw6_ok ⟨m, hm⟩ hm1).2.2.1
  have hcl2 := (clr_le ⟨m, hm⟩ ⟨lw6 m, hl6⟩).2.2
  dsimp only at hl6 hcl hcl2
  have hcg := clr_le ⟨clr m (lw6 m), by omega⟩ ⟨g, hg⟩
  dsimp only at hcg
  refine Ok.enter (F := F_346) (ls := [.ref 318, .int (nI m), .int (nI g), lDead, lDead]) rfl rfl ?_
  refine wp_iload1 (pc' := 1) rfl rfl ?_
  refine wp_callS1 (pc' := 4) rfl rfl rfl rfl rfl rfl ?_
  refine m_firstOf hm hm1 ?_
  refine Cont.v ?_
  refine wp_istore3 (pc' := 5) rfl (by first | rfl | assumption) rfl ?_
  refine wp_iload1 (pc' := 6) rfl rfl ?_
  refine wp_iconst (v := nI 1) (pc' := 7) rfl rfl rfl ?_
  refine wp_iload3 (pc' := 8) rfl rfl ?_
  refine wp_ishl (pc' := 9) rfl rfl ?_
  refine wp_iconst (v := (-1)) (pc' := 10) rfl rfl rfl ?_
  refine wp_ixor (pc' := 11) rfl rfl ?_
  refine wp_iand (pc' := 12) rfl rfl ?_
  rw [hcl2]
  refine wp_istore4 (pc' := 14) rfl (by first | rfl | assumption) rfl ?_
  refine wp_iload2 (pc' := 15) rfl rfl ?_
  refine wp_iconst (v := (-1)) (pc' := 16) rfl rfl rfl ?_
  refine wp_icmpneT rfl (nI_nm1 (by omega)) ?_
  refine wp_iload4 (pc' := 29) rfl rfl ?_
  refine wp_iload2 (pc' := 30) rfl rfl ?_
  refine wp_callS2 (pc' := 33) rfl rfl rfl rfl rfl rfl ?_
  refine m_has ?_
  refine Cont.v ?_
  first | refine wp_ifeqB (pc' := 36) rfl rfl ?_ ?_ | refine wp_ifeq (pc' := 36) rfl rfl ?_ ?_
  · intro h33
    refine wp_iconst (v := (-1)) (pc' := 70) rfl rfl rfl ?_
    refine wp_iret rfl rfl rfl ?_
    first | exact Qv kk (by rw [if_pos h33, pbN_g, if_pos h33]) rfl | exact Qv kk (by rw [if_neg h33]) rfl
  · intro h33
    refine wp_aload0 (pc' := 37) rfl rfl ?_
    refine wp_iload3 (pc' := 38) rfl rfl ?_
    refine wp_iconst (v := nI 3) (pc' := 39) rfl rfl rfl ?_
    refine wp_callV3 (pc' := 42) rfl rfl rfl rfl rfl (by first | exact TK.k1 hT rfl | exact TK.kk hT rfl | exact TK.r hT rfl | assumption) rfl rfl ?_
    refine m_ofH hT (by omega) (by decide) ?_
    refine Cont.v ?_
    refine wp_aload0 (pc' := 43) rfl rfl ?_
    refine wp_iload2 (pc' := 44) rfl rfl ?_
    refine wp_iconst (v := nI 3) (pc' := 45) rfl rfl rfl ?_
    refine wp_callV3 (pc' := 48) rfl rfl rfl rfl rfl (by first | exact TK.k1 hT rfl | exact TK.kk hT rfl | exact TK.r hT rfl | assumption) rfl rfl ?_
    refine m_ofH hT (by omega) (by decide) ?_
    refine Cont.v ?_
    refine wp_iand (pc' := 49) rfl rfl ?_
    refine wp_callS1 (pc' := 52) rfl rfl rfl rfl rfl rfl ?_
    refine c_bitCount ?_
    rw [(hs _ _ hl6 hg).1]
    refine Cont.v ?_
    refine wp_aload0 (pc' := 53) rfl rfl ?_
    refine wp_getRF (pc' := 56) rfl rfl (by first | exact TK.k1 hT rfl | exact TK.kk hT rfl | exact TK.r hT rfl | assumption) (by first | exact TK.k1 hT rfl | exact TK.kk hT rfl | exact TK.r hT rfl | assumption) rfl ?_
    refine wp_iload4 (pc' := 58) rfl rfl ?_
    refine wp_iconst (v := nI 1) (pc' := 59) rfl rfl rfl ?_
    refine wp_iload2 (pc' := 60) rfl rfl ?_
    refine wp_ishl (pc' := 61) rfl rfl ?_
    refine wp_iconst (v := (-1)) (pc' := 62) rfl rfl rfl ?_
    refine wp_ixor (pc' := 63) rfl rfl ?_
    refine wp_iand (pc' := 64) rfl rfl ?_
    rw [hcg.2.2]
    refine wp_iald _ (pc' := 65) rfl (by first | exact TK.k1 hT rfl | exact TK.kk hT rfl | exact TK.r hT rfl | assumption) (by with_reducible rfl) (by omega) (by first | decide | assumption | omega) rfl ?_
    rw [hp _ (by omega)]
    first | refine wp_iaddN (pc' := 66) rfl (by with_reducible rfl) (by with_reducible rfl) rfl ?_ | refine wp_iadd (pc' := 66) rfl rfl ?_
    refine wp_goto rfl ?_
    refine wp_iret rfl rfl rfl ?_
    first | exact Qv kk (by rw [if_pos h33, pbN_g, if_pos h33]) rfl | exact Qv kk (by rw [if_neg h33]) rfl
abbrev pbP (m k : Nat) : Prop := k = 0 ∨ hasP (nI (clr m (lw6 m))) (k - 1)
theorem m_pbK {d : Nat} {K : Nat → Nat × Nat} {I : Mem} {L : Nat → Nat → Int64} {R : Nat → Nat → Option Nat} {n s : Nat} {Q : Lo → Lm → Prop} {m k : Nat} {sh : Nat → Nat → Nat} {P : Nat → Nat} (hT : TK K R n) (hs : ShW (I 319) sh) (hp : ∀ q, q < m → I 335 q = nI (P q)) (hm : m < 64) (hm1 : 1 ≤ m) (hk : k ≤ 6) (kk : Q (.inl (some (.int (if pbP m k then nI (pbN sh P m k) else -1)))) (K, I, L, R, n, s)) : Ok (d + 3) 346 [.ref 318, .int (nI m), .int (nI k + (-1))] (K, I, L, R, n, s) Q := by
  cases k with
  | zero =>
    rw [if_pos (Or.inl rfl)] at kk
    rw [show nI 0 + (-1) = -1 from by decide]
    exact m_pb0 hT hs hp hm hm1 kk
  | succ g =>
    rw [k_m1]
    refine m_pbG hT hs hp hm hm1 (by omega) ?_
    by_cases h : hasP (nI (clr m (lw6 m))) g
    · rw [if_pos (show pbP m (g + 1) from Or.inr h)] at kk; rw [if_pos h]; exact kk
    · rw [if_neg (show ¬ pbP m (g + 1) from fun q => q.elim (fun z => absurd z (by omega)) h)] at kk; rw [if_neg h]; exact kk
def mxN (sh : Nat → Nat → Nat) (P : Nat → Nat) (m i : Nat) : Nat := forN (fun k x => max x (pbN sh P m k)) 0 i
theorem mxN_s {sh : Nat → Nat → Nat} {P : Nat → Nat} {m i : Nat} : mxN sh P m (i + 1) = max (mxN sh P m i) (pbN sh P m i) := rfl
theorem mxN_le {sh : Nat → Nat → Nat} {P : Nat → Nat} {m b : Nat} : ∀ i, (∀ k, k < i → pbN sh P m k ≤ b) → mxN sh P m i ≤ b
  | 0 => fun _ => Nat.zero_le _
  | i + 1 => fun h => by
    have := mxN_le i (fun k hk => h k (by omega))
    have := h i (by omega)
    rw [mxN_s]; omega
theorem mx_step {sh : Nat → Nat → Nat} {P : Nat → Nat} {m k : Nat} (hx : mxN sh P m k < 2 ^ 31) (hy : pbN sh P m k < 2 ^ 31) : jmax (nI (mxN sh P m k)) (if pbP m k then nI (pbN sh P m k) else -1) = nI (mxN sh P m (k + 1)) := by
  rw [mxN_s]
  by_cases h : pbP m k
  · rw [if_pos h, nI_max hx hy]
  · rw [if_neg h]
    have : pbN sh P m k = 0 := by
      cases k with
      | zero => exact absurd (Or.inl rfl) h
      | succ g => rw [pbN_g, if_neg (show ¬ hasP (nI (clr m (lw6 m))) g from fun q => h (Or.inr q))]
    rw [this, Nat.max_eq_left (Nat.zero_le _)]
    unfold jmax
    rw [if_neg (fun q => absurd (Int32.lt_trans q (show (-1 : Int32) < nI 0 by decide)) (nI_pos hx))]
/-- sets below i done -/
def paN (sh : Nat → Nat → Nat) (H : Nat) (i : Nat) : Nat → Nat := forN (fun j P => up1 P (1 + j) (mxN sh P (1 + j) (H + 1))) (fun _ => 0) i
theorem paN_s {sh : Nat → Nat → Nat} {H i : Nat} : paN sh H (i + 1) = up1 (paN sh H i) (1 + i) (mxN sh (paN sh H i) (1 + i) (H + 1)) := rfl
/-- no more than 32 for each hearth -/
theorem paN_b {w : Nat → Int32} {sh : Nat → Nat → Nat} {H : Nat} (hs : ShW w sh) (hH : H ≤ 6) : ∀ i, i ≤ 63 → ∀ m, m < 64 → paN sh H i m ≤ 32 * m
  | 0 => fun _ m _ => Nat.zero_le _
  | i + 1 => fun hi m hm => by
    have ih := paN_b hs hH i (by omega)
    rw [paN_s]
    by_cases e : m = 1 + i
    · subst e
      rw [up1_hit]
      have h1 := (lw6_ok ⟨1 + i, hm⟩ (by show 1 ≤ 1 + i; omega)).1
      have h2 := (lw6_ok ⟨1 + i, hm⟩ (by show 1 ≤ 1 + i; omega)).2.2.1
      dsimp only at h1 h2
      refine mxN_le (H + 1) (fun k hk => ?_)
      cases k with
      | zero => have := ih (clr (1 + i) (lw6 (1 + i))) (by omega); show paN sh H i (clr (1 + i) (lw6 (1 + i))) ≤ _; omega
      | succ g =>
        have h3 := (clr_le ⟨clr (1 + i) (lw6 (1 + i)), by omega⟩ ⟨g, by omega⟩)
        dsimp only at h3
        have a1 := (hs (lw6 (1 + i)) g h1 (by omega)).2
        have a2 := ih (clr (clr (1 + i) (lw6 (1 + i))) g) h3.2.1
        show (if hasP (nI (clr (1 + i) (lw6 (1 + i)))) g then sh (lw6 (1 + i)) g + paN sh H i (clr (clr (1 + i) (lw6 (1 + i))) g) else 0) ≤ _
        split <;> omega
    · rw [up1_ne e]; exact ih m hm

/-- the row as far as it is done; the rest, any numbers -/
def PaI (sh : Nat → Nat → Nat) (H i : Nat) (V : Nat → Int32) : Prop := ∀ m, m < 1 + i → V m = nI (paN sh H i m)
theorem PaI_s {sh : Nat → Nat → Nat} {H i : Nat} {V : Nat → Int32} (h : PaI sh H i V) : PaI sh H (i + 1) (up1 V (1 + i) (nI (mxN sh (paN sh H i) (1 + i) (H + 1)))) := fun m hm => by
  rw [paN_s]
  by_cases e : m = 1 + i
  · rw [e, up1_hit, up1_hit]
  · rw [up1_ne e, up1_ne e]; exact h m (by omega)

theorem pb_b {w : Nat → Int32} {sh : Nat → Nat → Nat} {H i k : Nat} (hs : ShW w sh) (hH : H ≤ 6) (hi : i < 63) (hk : k ≤ 6) : pbN sh (paN sh H i) (1 + i) k ≤ 2048 := by
  have hb := paN_b hs hH i (by omega)
  have h1 := (lw6_ok ⟨1 + i, by omega⟩ (by show 1 ≤ 1 + i; omega)).1
  have h2 := (lw6_ok ⟨1 + i, by omega⟩ (by show 1 ≤ 1 + i; omega)).2.2.1
  dsimp only at h1 h2
  cases k with
  | zero => have := hb (clr (1 + i) (lw6 (1 + i))) (by omega); show paN sh H i (clr (1 + i) (lw6 (1 + i))) ≤ _; omega
  | succ g =>
    have h3 := (clr_le ⟨clr (1 + i) (lw6 (1 + i)), by omega⟩ ⟨g, by omega⟩)
    dsimp only at h3
    have a1 := (hs (lw6 (1 + i)) g h1 (by omega)).2
    have a2 := hb (clr (clr (1 + i) (lw6 (1 + i))) g) h3.2.1
    show (if hasP (nI (clr (1 + i) (lw6 (1 + i)))) g then sh (lw6 (1 + i)) g + paN sh H i (clr (clr (1 + i) (lw6 (1 + i))) g) else 0) ≤ _
    split <;> omega
theorem mx_b {w : Nat → Int32} {sh : Nat → Nat → Nat} {H i k : Nat} (hs : ShW w sh) (hH : H ≤ 6) (hi : i < 63) (hk : k ≤ 7) : mxN sh (paN sh H i) (1 + i) k ≤ 2048 := mxN_le k (fun j hj => pb_b hs hH hi (by omega))
theorem shl6 {H : Nat} (h : H ≤ 6) : jshl (nI 1) (nI H) = nI (2 ^ H) ∧ 1 ≤ 2 ^ H ∧ 2 ^ H ≤ 64 := ⟨(shl7 ⟨H, by omega⟩).1, (shl7 ⟨H, by omega⟩).2.2.1, (shl7 ⟨H, by omega⟩).2.2.2⟩

theorem m_laysPairs {d : Nat} {K : Nat → Nat × Nat} {I : Nat → Nat → Int32} {L : Nat → Nat → Int64} {R : Nat → Nat → Option Nat} {n s : Nat} {Q : Lo → Lm → Prop} {H : Nat} {sh : Nat → Nat → Nat} (hT : TK K R n) (hw : I 319 0 = nI H) (hH6 : H ≤ 6) (hs : ShW (I 319) sh) (kk : ∀ V, PaI sh H (2 ^ H - 1) V → Q (.inl none) (K, upr I 335 V, L, R, n, s)) : Ok (d + 4) 345 [.ref 318] (K, I, L, R, n, s) Q := by
  obtain ⟨-, -, hn⟩ := id hT
  have hpw := shl6 hH6
  refine Ok.enter (F := F_345) (ls := [.ref 318, lDead, lDead, lDead]) rfl rfl ?_
  refine wp_aload0 (pc' := 1) rfl rfl ?_
  refine wp_getRF (pc' := 4) rfl rfl (by first | exact TK.k1 hT rfl | exact TK.kk hT rfl | exact TK.r hT rfl | assumption) (by first | exact TK.k1 hT rfl | exact TK.kk hT rfl | exact TK.r hT rfl | assumption) rfl ?_
  refine wp_iconst (v := nI 0) (pc' := 5) rfl rfl rfl ?_
  refine wp_iconst (v := nI 0) (pc' := 6) rfl rfl rfl ?_
  refine wp_iast _ (pc' := 7) rfl (by first | exact TK.k1 hT rfl | exact TK.kk hT rfl | exact TK.r hT rfl | assumption) (by omega) (by with_reducible rfl) (by omega) (by first | decide | assumption | omega) rfl ?_
  refine wp_iconst (v := nI 1) (pc' := 8) rfl rfl rfl ?_
  refine wp_istore1 (pc' := 9) rfl (by first | rfl | assumption) rfl ?_
  have lp9 : ∀ r (i : Nat) (V : Nat → Int32) (v2 : Value) (v3 : Value), i + r = (2 ^ H - 1) → PaI sh H i V → isL v2 = false → isL v3 = false → WP (d + 3) F_345 9 [.ref 318, .int (nI (1 + i)), v2, v3] [] (K, upr I 335 V, L, R, n, s) Q := by
    intro r; induction r with
    | zero =>
      intro i V v2 v3 hi hv0 hv1 hv2
      have hi2 : i = (2 ^ H - 1) := by omega
      skip
      refine wp_iload1 (pc' := 10) rfl rfl ?_
      refine wp_iconst (v := nI 1) (pc' := 11) rfl rfl rfl ?_
      refine wp_aload0 (pc' := 12) rfl rfl ?_
      refine wp_callV1 (pc' := 15) rfl rfl rfl rfl rfl (by first | exact TK.k1 hT rfl | exact TK.kk hT rfl | exact TK.r hT rfl | assumption) rfl rfl ?_
      refine m_hearths (H := H) hT (by rw [upr_ne (show (319 : Nat) ≠ 335 by decide)]; exact hw) ?_
      refine Cont.v ?_
      refine wp_ishl (pc' := 16) rfl rfl ?_
      rw [(shl6 hH6).1]
      refine wp_icmpgeT rfl (nI_nlt (by omega) (by omega)) ?_
      refine wp_vret rfl rfl ?_
      rw [hi2] at hv0
      exact kk V hv0
    | succ r ih =>
      intro i V v2 v3 hi hv0 hv1 hv2
      have hlt : i < (2 ^ H - 1) := by omega
      refine wp_iload1 (pc' := 10) rfl rfl ?_
      refine wp_iconst (v := nI 1) (pc' := 11) rfl rfl rfl ?_
      refine wp_aload0 (pc' := 12) rfl rfl ?_
      refine wp_callV1 (pc' := 15) rfl rfl rfl rfl rfl (by first | exact TK.k1 hT rfl | exact TK.kk hT rfl | exact TK.r hT rfl | assumption) rfl rfl ?_
      refine m_hearths (H := H) hT (by rw [upr_ne (show (319 : Nat) ≠ 335 by decide)]; exact hw) ?_
      refine Cont.v ?_
      refine wp_ishl (pc' := 16) rfl rfl ?_
      rw [(shl6 hH6).1]
      refine wp_icmpgeF (pc' := 19) rfl (nI_lt (by omega) (by omega)) rfl ?_
      refine wp_iconst (v := nI 0) (pc' := 20) rfl rfl rfl ?_
      refine wp_istore2 (pc' := 21) rfl (by first | rfl | assumption) rfl ?_
      refine wp_iconst (v := (-1)) (pc' := 22) rfl rfl rfl ?_
      refine wp_istore3 (pc' := 23) rfl (by first | rfl | assumption) rfl ?_
      have lp23 : ∀ rb (k : Nat), k + rb = (H + 1) → WP (d + 3) F_345 23 [.ref 318, .int (nI (1 + i)), .int (nI (mxN sh (paN sh H i) (1 + i) k)), .int (nI k + (-1))] [] (K, upr I 335 V, L, R, n, s) Q := by
        intro rb; induction rb with
        | zero =>
          intro k hib 
          have hi2b : k = (H + 1) := by omega
          rw [hi2b]
          refine wp_iload3 (pc' := 24) rfl rfl ?_
          refine wp_aload0 (pc' := 25) rfl rfl ?_
          refine wp_callV1 (pc' := 28) rfl rfl rfl rfl rfl (by first | exact TK.k1 hT rfl | exact TK.kk hT rfl | exact TK.r hT rfl | assumption) rfl rfl ?_
          refine m_hearths (H := H) hT (by rw [upr_ne (show (319 : Nat) ≠ 335 by decide)]; exact hw) ?_
          refine Cont.v ?_
          refine wp_icmpgeT rfl (k_nlt ⟨H, by omega⟩) ?_
          refine wp_aload0 (pc' := 49) rfl rfl ?_
          refine wp_getRF (pc' := 52) rfl rfl (by first | exact TK.k1 hT rfl | exact TK.kk hT rfl | exact TK.r hT rfl | assumption) (by first | exact TK.k1 hT rfl | exact TK.kk hT rfl | exact TK.r hT rfl | assumption) rfl ?_
          refine wp_iload1 (pc' := 53) rfl rfl ?_
          refine wp_iload2 (pc' := 54) rfl rfl ?_
          refine wp_iast _ (pc' := 55) rfl (by first | exact TK.k1 hT rfl | exact TK.kk hT rfl | exact TK.r hT rfl | assumption) (by omega) (by with_reducible rfl) (by omega) (by first | decide | assumption | omega) rfl ?_
          first | refine wp_iinc1 (w := nI 1) (pc' := 58) rfl rfl rfl (by with_reducible exact nI_add _ _) rfl ?_ | refine wp_iinc1 (w := nI 1) (pc' := 58) rfl rfl rfl rfl rfl ?_
          refine wp_goto rfl ?_
          exact WP.cg (ih (i + 1) _ _ _ (by omega) (PaI_s hv0) (by first | rfl | assumption) (by first | rfl | assumption)) (lC1 (lI1 (by first | with_reducible rfl | rfl) (lC1 (lC1 rfl)))) rfl (by rw [up2_upr])
        | succ rb ihb =>
          intro k hib 
          have hltb : k < (H + 1) := by omega
          refine wp_iload3 (pc' := 24) rfl rfl ?_
          refine wp_aload0 (pc' := 25) rfl rfl ?_
          refine wp_callV1 (pc' := 28) rfl rfl rfl rfl rfl (by first | exact TK.k1 hT rfl | exact TK.kk hT rfl | exact TK.r hT rfl | assumption) rfl rfl ?_
          refine m_hearths (H := H) hT (by rw [upr_ne (show (319 : Nat) ≠ 335 by decide)]; exact hw) ?_
          refine Cont.v ?_
          refine wp_icmpgeF (pc' := 31) rfl (k_lt ⟨k, by omega⟩ ⟨H, by omega⟩ (by show k ≤ H; omega)) rfl ?_
          refine wp_iload2 (pc' := 32) rfl rfl ?_
          refine wp_aload0 (pc' := 33) rfl rfl ?_
          refine wp_iload1 (pc' := 34) rfl rfl ?_
          refine wp_iload3 (pc' := 35) rfl rfl ?_
          refine wp_callV3 (pc' := 38) rfl rfl rfl rfl rfl (by first | exact TK.k1 hT rfl | exact TK.kk hT rfl | exact TK.r hT rfl | assumption) rfl rfl ?_
          refine m_pbK (sh := sh) (P := paN sh H i) hT (by rw [upr_ne (show (319 : Nat) ≠ 335 by decide)]; exact hs) (fun q hq => by rw [upr_same]; exact hv0 q hq) (by omega) (by omega) (by omega) ?_
          refine Cont.v ?_
          refine wp_max (pc' := 41) rfl rfl rfl rfl ?_
          rw [mx_step (by have := mx_b (k := k) hs hH6 (show i < 63 by omega) (by omega); omega) (by have := pb_b (k := k) hs hH6 (show i < 63 by omega) (by omega); omega)]
          refine wp_istore2 (pc' := 42) rfl (by first | rfl | assumption) rfl ?_
          first | refine wp_iinc3 (w := nI 1) (pc' := 45) rfl rfl rfl (by with_reducible exact nI_add _ _) rfl ?_ | refine wp_iinc3 (w := nI 1) (pc' := 45) rfl rfl rfl rfl rfl ?_
          refine wp_goto rfl ?_
          exact WP.cg (ihb (k + 1) (by omega)) (lC1 (lI1 (by first | with_reducible rfl | with_reducible exact k_inc) (lI1 (by first | with_reducible rfl | with_reducible exact k_inc) (lI1 (by first | with_reducible rfl | with_reducible exact k_inc) rfl)))) rfl (by rfl)
      exact WP.cg (lp23 ((H + 1) - (0)) (0) (by omega)) (lC1 (lI1 (by first | with_reducible rfl | decide | rfl) (lI1 (by first | with_reducible rfl | decide | rfl) (lI1 (by first | with_reducible rfl | decide | rfl) rfl)))) rfl (by rfl)
  exact WP.cg (lp9 ((2 ^ H - 1) - (0)) (0) (up1 (I 335) 0 (nI 0)) _ _ (by omega) (fun m hm => by rw [show m = 0 by omega, up1_hit]; rfl) (by first | rfl | assumption) (by first | rfl | assumption)) (lC1 (lI1 (by rfl) (lC1 (lC1 rfl)))) rfl (by rw [up2_as])
/-- the first k at which p holds -/
def fK (p : Nat → Prop) [∀ k, Decidable (p k)] : Nat → Nat → Nat
  | 0, i => i
  | r + 1, i => if p i then i else fK p r (i + 1)
theorem fK_spec {p : Nat → Prop} [∀ k, Decidable (p k)] : ∀ r i, (∃ k, i ≤ k ∧ k < i + r ∧ p k) → i ≤ fK p r i ∧ fK p r i < i + r ∧ p (fK p r i) ∧ ∀ j, i ≤ j → j < fK p r i → ¬ p j
  | 0, i => fun ⟨k, h1, h2, _⟩ => absurd h2 (by omega)
  | r + 1, i => fun ⟨k, h1, h2, h3⟩ => by
    rw [fK]
    by_cases e : p i
    · rw [if_pos e]; exact ⟨Nat.le_refl _, by omega, e, fun j a b => absurd a (by omega)⟩
    · rw [if_neg e]
      have hk : k ≠ i := fun q => e (by rw [← q]; exact h3)
      obtain ⟨a1, a2, a3, a4⟩ := fK_spec r (i + 1) ⟨k, by omega, by omega, h3⟩
      refine ⟨by omega, by omega, a3, fun j hj hj2 => ?_⟩
      by_cases q : j = i
      · rw [q]; exact e
      · exact a4 j (by omega) hj2
abbrev okK (sh : Nat → Nat → Nat) (P : Nat → Nat) (m k : Nat) : Prop := pbP m k ∧ pbN sh P m k = P m
abbrev fkP (sh : Nat → Nat → Nat) (P : Nat → Nat) (H m : Nat) : Nat := fK (fun k => okK sh P m k) (H + 1) 0
def nxM (m k : Nat) : Nat := match k with
  | 0 => clr m (lw6 m)
  | g + 1 => clr (clr m (lw6 m)) g
/-- with whom a hearth is, out of a set -/
def pwF (sh : Nat → Nat → Nat) (P : Nat → Nat) (H hh : Nat) : Nat → Nat → Int32
  | 0, _ => -1
  | f + 1, m => if lw6 m = hh then nI (fkP sh P H m) + (-1) else if fkP sh P H m = hh + 1 then nI (lw6 m) else pwF sh P H hh f (nxM m (fkP sh P H m))
theorem mxN_at {sh : Nat → Nat → Nat} {P : Nat → Nat} {m : Nat} : ∀ i, 1 ≤ i → ∃ k, k < i ∧ pbP m k ∧ pbN sh P m k = mxN sh P m i
  | 0 => fun h => absurd h (by decide)
  | 1 => fun _ => ⟨0, by decide, Or.inl rfl, by rw [mxN_s]; show _ = max 0 _; rw [Nat.max_eq_right (Nat.zero_le _)]⟩
  | i + 2 => fun _ => by
    obtain ⟨k, h1, h2, h3⟩ := mxN_at (sh := sh) (P := P) (m := m) (i + 1) (by omega)
    rw [mxN_s]
    by_cases e : pbN sh P m (i + 1) ≤ mxN sh P m (i + 1)
    · exact ⟨k, by omega, h2, by rw [Nat.max_eq_left e]; exact h3⟩
    · refine ⟨i + 1, by omega, ?_, by rw [Nat.max_eq_right (by omega)]⟩
      apply Classical.byContradiction
      intro q
      have : pbN sh P m (i + 1) = 0 := by rw [pbN_g, if_neg (show ¬ hasP (nI (clr m (lw6 m))) i from fun z => q (Or.inr z))]
      omega
/-- what a finished row says of a set -/
theorem paN_fin {sh : Nat → Nat → Nat} {H : Nat} : ∀ i m, m ≤ i → paN sh H i m = paN sh H m m
  | 0, m => fun h => by rw [show m = 0 by omega]
  | i + 1, m => fun h => by
    by_cases e : m = i + 1
    · rw [e]
    · rw [paN_s, up1_ne (by omega)]; exact paN_fin i m (by omega)
theorem pb_ag {sh : Nat → Nat → Nat} {P P2 : Nat → Nat} {m k : Nat} (hm : m < 64) (hm1 : 1 ≤ m) (hk : k ≤ 6) (h : ∀ q, q < m → P q = P2 q) : pbN sh P m k = pbN sh P2 m k := by
  have h2 := (lw6_ok ⟨m, hm⟩ hm1).2.2.1
  dsimp only at h2
  cases k with
  | zero => exact h _ h2
  | succ g =>
    have h3 := (clr_le ⟨clr m (lw6 m), by omega⟩ ⟨g, by omega⟩).1
    dsimp only at h3
    rw [pbN_g, pbN_g, h _ (Nat.lt_of_le_of_lt h3 h2)]
theorem mx_ag {sh : Nat → Nat → Nat} {P P2 : Nat → Nat} {m : Nat} (hm : m < 64) (hm1 : 1 ≤ m) (h : ∀ q, q < m → P q = P2 q) : ∀ i, i ≤ 7 → mxN sh P m i = mxN sh P2 m i
  | 0 => fun _ => rfl
  | i + 1 => fun hi => by rw [mxN_s, mxN_s, mx_ag hm hm1 h i (by omega), pb_ag hm hm1 (by omega) h]
theorem pa_max {sh : Nat → Nat → Nat} {H m i : Nat} (hH : H ≤ 6) (hi : i ≤ 63) (hm1 : 1 ≤ m) (hm : m ≤ i) : paN sh H i m = mxN sh (paN sh H i) m (H + 1) := by
  rw [paN_fin i m hm]
  obtain ⟨j, rfl⟩ : ∃ j, m = 1 + j := ⟨m - 1, by omega⟩
  rw [show 1 + j = j + 1 by omega, paN_s, show 1 + j = j + 1 by omega, up1_hit]
  exact mx_ag (by omega) (by omega) (fun q hq => by rw [paN_fin j q (by omega), paN_fin i q (by omega)]) (H + 1) (by omega)
theorem fk_ok {sh : Nat → Nat → Nat} {H m i : Nat} (hH : H ≤ 6) (hi : i ≤ 63) (hm1 : 1 ≤ m) (hm : m ≤ i) : fkP sh (paN sh H i) H m ≤ H ∧ okK sh (paN sh H i) m (fkP sh (paN sh H i) H m) ∧ ∀ j, j < fkP sh (paN sh H i) H m → ¬ okK sh (paN sh H i) m j := by
  obtain ⟨k, h1, h2, h3⟩ := mxN_at (sh := sh) (P := paN sh H i) (m := m) (H + 1) (by omega)
  obtain ⟨a1, a2, a3, a4⟩ := fK_spec (p := fun k => okK sh (paN sh H i) m k) (H + 1) 0 ⟨k, by omega, by omega, h2, by rw [h3]; exact (pa_max hH hi hm1 hm).symm⟩
  exact ⟨by show fK _ _ _ ≤ H; omega, a3, fun j hj => a4 j (by omega) hj⟩
theorem nx_lt {m k : Nat} (hm : m < 64) (hm1 : 1 ≤ m) (hk : k ≤ 6) : nxM m k < m := by
  have h2 := (lw6_ok ⟨m, hm⟩ hm1).2.2.1
  dsimp only at h2
  cases k with
  | zero => exact h2
  | succ g =>
    have h3 := (clr_le ⟨clr m (lw6 m), by omega⟩ ⟨g, by omega⟩).1
    dsimp only at h3
    exact Nat.lt_of_le_of_lt h3 h2
theorem has_0 : ∀ h : Fin 6, ¬ hasP (nI 0) h.1 := by decide +kernel
theorem nx_has {m k hh : Nat} (hm : m < 64) (hm1 : 1 ≤ m) (hk : k ≤ 6) (h6 : hh < 6) (hp : hasP (nI m) hh) (e : ¬ lw6 m = hh) (e2 : ¬ k = hh + 1) : hasP (nI (nxM m k)) hh := by
  have hl := (lw6_ok ⟨m, hm⟩ hm1)
  dsimp only at hl
  have c1 := (clr_has ⟨m, hm⟩ ⟨lw6 m, hl.1⟩ ⟨hh, h6⟩).mpr ⟨hp, fun q => e q.symm⟩
  dsimp only at c1
  cases k with
  | zero => exact c1
  | succ g => exact (clr_has ⟨clr m (lw6 m), by omega⟩ ⟨g, by omega⟩ ⟨hh, h6⟩).mpr ⟨c1, fun q => e2 (by dsimp only at q; omega)⟩
theorem pw_fuel {sh : Nat → Nat → Nat} {H hh i : Nat} (hH : H ≤ 6) (hi : i ≤ 63) (h6 : hh < 6) : ∀ f g m, m ≤ i → m < f → m < g → hasP (nI m) hh → pwF sh (paN sh H i) H hh f m = pwF sh (paN sh H i) H hh g m
  | 0, _, _ => fun _ h => absurd h (Nat.not_lt_zero _)
  | f + 1, 0, _ => fun _ _ h => absurd h (Nat.not_lt_zero _)
  | f + 1, g + 1, m => fun hm hf hg hp => by
    have hm1 : 1 ≤ m := by
      apply Classical.byContradiction
      intro q
      rw [show m = 0 by omega] at hp
      exact has_0 ⟨hh, h6⟩ hp
    obtain ⟨k1, k2, -⟩ := fk_ok (sh := sh) hH hi hm1 hm
    have hn := nx_lt (k := fkP sh (paN sh H i) H m) (by omega) hm1 (by omega)
    rw [pwF, pwF]
    by_cases e : lw6 m = hh
    · rw [if_pos e, if_pos e]
    · rw [if_neg e, if_neg e]
      by_cases e2 : fkP sh (paN sh H i) H m = hh + 1
      · rw [if_pos e2, if_pos e2]
      · rw [if_neg e2, if_neg e2]
        exact pw_fuel hH hi h6 f g _ (by omega) (by omega) (by omega) (nx_has (by omega) hm1 (by omega) h6 hp e e2)
theorem k_eq : ∀ k : Fin 8, ∀ h : Fin 6, nI k.1 + (-1) = nI h.1 → k.1 = h.1 + 1 := by decide +kernel
theorem k_eqr {k h : Nat} (e : k = h + 1) : nI k + (-1) = nI h := by rw [e, k_m1]
theorem k_z : ∀ k : Fin 8, nI k.1 + (-1) = -1 → k.1 = 0 := by decide +kernel
theorem nx_k0 {m k : Nat} (hk : k ≤ 7) (h : nI k + (-1) = -1) : clr m (lw6 m) = nxM m k := by rw [show k = 0 from k_z ⟨k, by omega⟩ h]; rfl
theorem nx_k1 {m k : Nat} (hm : m < 64) (hm1 : 1 ≤ m) (hk : k ≤ 6) (h : ¬ nI k + (-1) = -1) : nI (clr m (lw6 m)) &&& (jshl (nI 1) (nI k + (-1)) ^^^ (-1)) = nI (nxM m k) := by
  have h2 := (lw6_ok ⟨m, hm⟩ hm1).2.2.1
  dsimp only at h2
  cases k with
  | zero => exact absurd (by decide) h
  | succ g =>
    rw [k_m1]
    exact (clr_le ⟨clr m (lw6 m), by omega⟩ ⟨g, by omega⟩).2.2
theorem pw_n {sh : Nat → Nat → Nat} {H hh i m k : Nat} {v : Int32} (hH : H ≤ 6) (hi : i ≤ 63) (h6 : hh < 6) (hm1 : 1 ≤ m) (hm : m ≤ i) (h : pwF sh (paN sh H i) H hh (m + 1) m = v ∧ hasP (nI m) hh) (hk : k = fkP sh (paN sh H i) H m) : decide (lw6 m = hh ∨ k = hh + 1) = false → pwF sh (paN sh H i) H hh (nxM m k + 1) (nxM m k) = v ∧ hasP (nI (nxM m k)) hh := fun q => by
  have q2 := of_decide_eq_false q
  have e1 : ¬ lw6 m = hh := fun z => q2 (Or.inl z)
  have e2 : ¬ k = hh + 1 := fun z => q2 (Or.inr z)
  have k1 := (fk_ok (sh := sh) hH hi hm1 hm).1
  have hn := nx_lt (m := m) (k := k) (by omega) hm1 (by omega)
  have hp := nx_has (by omega) hm1 (by omega) h6 h.2 e1 e2
  refine ⟨?_, hp⟩
  have hr : pwF sh (paN sh H i) H hh (m + 1) m = pwF sh (paN sh H i) H hh m (nxM m k) := by rw [pwF, if_neg e1, ← hk, if_neg e2]
  rw [← h.1, hr]
  exact pw_fuel hH hi h6 _ _ _ (by omega) (by omega) (by omega) hp
theorem pw_y {sh : Nat → Nat → Nat} {H hh i m k : Nat} {v : Int32} (h : pwF sh (paN sh H i) H hh (m + 1) m = v ∧ hasP (nI m) hh) (hk : k = fkP sh (paN sh H i) H m) : decide (lw6 m = hh ∨ k = hh + 1) = true → (if lw6 m = hh then nI k + (-1) else nI (lw6 m)) = v := fun q => by
  have q2 := of_decide_eq_true q
  rw [← h.1, pwF, ← hk]
  by_cases e : lw6 m = hh
  · rw [if_pos e, if_pos e]
  · rw [if_neg e, if_neg e, if_pos (q2.resolve_left e)]
theorem or_t1 {p q : Prop} [Decidable p] [Decidable q] (h : p) : nI 1 = if decide (p ∨ q) = true then nI 1 else nI 0 := (if_pos (decide_eq_true (Or.inl h))).symm
theorem or_t2 {p q : Prop} [Decidable p] [Decidable q] (h : q) : nI 1 = if decide (p ∨ q) = true then nI 1 else nI 0 := (if_pos (decide_eq_true (Or.inr h))).symm
theorem or_f {p q : Prop} [Decidable p] [Decidable q] (h : ¬ p) (g : ¬ q) : nI 0 = if decide (p ∨ q) = true then nI 1 else nI 0 := (if_neg (fun z => (of_decide_eq_true z).elim h g)).symm
theorem wi_t {p : Prop} [Decidable p] {a b : Int32} (h : p) : a = if p then a else b := (if_pos h).symm
theorem wi_f {p : Prop} [Decidable p] {a b : Int32} (h : ¬ p) : b = if p then a else b := (if_neg h).symm
theorem all_has : ∀ H : Fin 7, ∀ h : Fin 6, h.1 < H.1 → hasP (nI (2 ^ H.1 - 1)) h.1 := by decide +kernel
theorem pb_ne {sh : Nat → Nat → Nat} {P : Nat → Nat} {m k : Nat} (hx : pbN sh P m k < 2 ^ 31) (hy : P m < 2 ^ 31) : (if pbP m k then nI (pbN sh P m k) else -1) = nI (P m) ↔ okK sh P m k := by
  by_cases h : pbP m k
  · rw [if_pos h]
    exact ⟨fun e => ⟨h, eq_nI e hx hy⟩, fun e => by rw [e.2]⟩
  · rw [if_neg h]
    exact ⟨fun e => absurd e.symm (nI_nm1 hy), fun e => absurd e.1 h⟩
theorem pb_bX {w : Nat → Int32} {sh : Nat → Nat → Nat} {H i m k : Nat} (hs : ShW w sh) (hH : H ≤ 6) (hi : i ≤ 63) (hm : m < 64) (hm1 : 1 ≤ m) (hk : k ≤ 6) : pbN sh (paN sh H i) m k ≤ 4096 := by
  have hb := paN_b hs hH i hi
  have h1 := (lw6_ok ⟨m, hm⟩ hm1).1
  have h2 := (lw6_ok ⟨m, hm⟩ hm1).2.2.1
  dsimp only at h1 h2
  cases k with
  | zero => have := hb (clr m (lw6 m)) (by omega); show paN sh H i (clr m (lw6 m)) ≤ _; omega
  | succ g =>
    have h3 := (clr_le ⟨clr m (lw6 m), by omega⟩ ⟨g, by omega⟩)
    dsimp only at h3
    have a1 := (hs (lw6 m) g h1 (by omega)).2
    have a2 := hb (clr (clr m (lw6 m)) g) h3.2.1
    show (if hasP (nI (clr m (lw6 m))) g then sh (lw6 m) g + paN sh H i (clr (clr m (lw6 m)) g) else 0) ≤ _
    split <;> omega

theorem m_pairsN {d : Nat} {K : Nat → Nat × Nat} {I : Nat → Nat → Int32} {L : Nat → Nat → Int64} {R : Nat → Nat → Option Nat} {n s : Nat} {Q : Lo → Lm → Prop} {H : Nat} {sh : Nat → Nat → Nat} (hT : TK K R n) (hw : I 319 0 = nI H) (hH6 : H ≤ 6) (hs : ShW (I 319) sh) (kk : ∀ J, AskJ I J → Q (.inl (some (.int (nI ((paN sh H (2 ^ H - 1)) (2 ^ H - 1)))))) (K, J, L, R, n, s)) : Ok (d + 5) 344 [.ref 318, .int (-1)] (K, I, L, R, n, s) Q := by
  obtain ⟨-, -, hn⟩ := id hT
  have hpw := shl6 hH6
  refine Ok.enter (F := F_344) (ls := [.ref 318, .int (-1), lDead, lDead, lDead, lDead, lDead]) rfl rfl ?_
  refine wp_aload0 (pc' := 1) rfl rfl ?_
  refine wp_iconst (v := nI 0) (pc' := 2) rfl rfl rfl ?_
  refine wp_putI (pc' := 5) rfl rfl (by first | exact TK.k1 hT rfl | exact TK.kk hT rfl | exact TK.r hT rfl | assumption) (by omega) rfl ?_
  obtain ⟨M, hM⟩ : ∃ M, M = up2 I 318 0 (nI 0) := ⟨_, rfl⟩
  have hM9 : M 319 = I 319 := by rw [hM]; exact up2_row (by decide)
  have hM7 : M 318 7 = I 318 7 := by rw [hM, up2_same, if_neg (by decide)]
  rw [← hM]
  refine wp_aload0 (pc' := 6) rfl rfl ?_
  refine wp_iload1 (pc' := 7) rfl rfl ?_
  refine wp_iconst (v := (-1)) (pc' := 8) rfl rfl rfl ?_
  refine wp_icmpeqT rfl rfl ?_
  refine wp_iconst (v := nI 0) (pc' := 24) rfl rfl rfl ?_
  refine wp_iconst (v := nI 1) (pc' := 25) rfl rfl rfl ?_
  refine wp_callV3 (pc' := 28) rfl rfl rfl rfl rfl (by first | exact TK.k1 hT rfl | exact TK.kk hT rfl | exact TK.r hT rfl | assumption) rfl rfl ?_
  refine m_tfN hT ?_
  refine Cont.v ?_
  refine wp_ifeqT rfl rfl ?_
  refine wp_aload0 (pc' := 34) rfl rfl ?_
  refine wp_callV1 (pc' := 37) rfl rfl rfl rfl rfl (by first | exact TK.k1 hT rfl | exact TK.kk hT rfl | exact TK.r hT rfl | assumption) rfl rfl ?_
  refine m_laysPairs (sh := sh) hT (by rw [hM9]; exact hw) hH6 (by rw [hM9]; exact hs) (fun V hV => ?_)
  have hrd : ∀ q, q < 2 ^ H → V q = nI ((paN sh H (2 ^ H - 1)) q) := fun q hq => hV q (by omega)
  have hAJ : AskJ I (upr M 335 V) := ask_mk0 (by rw [← hM]; exact KpS.rfl'.upr (by omega)) (by rw [upr_ne (by decide)]; exact hM9)
  refine Cont.u ?_
  refine wp_iconst (v := nI 1) (pc' := 38) rfl rfl rfl ?_
  refine wp_aload0 (pc' := 39) rfl rfl ?_
  refine wp_callV1 (pc' := 42) rfl rfl rfl rfl rfl (by first | exact TK.k1 hT rfl | exact TK.kk hT rfl | exact TK.r hT rfl | assumption) rfl rfl ?_
  refine m_hearths (H := H) hT (by rw [upr_ne (show (319 : Nat) ≠ 335 by decide), hM9]; exact hw) ?_
  refine Cont.v ?_
  refine wp_ishl (pc' := 43) rfl rfl ?_
  rw [hpw.1]
  refine wp_iconst (v := nI 1) (pc' := 44) rfl rfl rfl ?_
  first | refine wp_isubN (pc' := 45) rfl (by with_reducible rfl) (by with_reducible rfl) (by omega) rfl ?_ | refine wp_isub (pc' := 45) rfl rfl ?_
  refine wp_istore2 (pc' := 46) rfl (by first | rfl | assumption) rfl ?_
  refine wp_iload1 (pc' := 47) rfl rfl ?_
  refine wp_iconst (v := (-1)) (pc' := 48) rfl rfl rfl ?_
  refine wp_icmpneF (pc' := 51) rfl rfl rfl ?_
  refine wp_aload0 (pc' := 52) rfl rfl ?_
  refine wp_getRF (pc' := 55) rfl rfl (by first | exact TK.k1 hT rfl | exact TK.kk hT rfl | exact TK.r hT rfl | assumption) (by first | exact TK.k1 hT rfl | exact TK.kk hT rfl | exact TK.r hT rfl | assumption) rfl ?_
  refine wp_iload2 (pc' := 56) rfl rfl ?_
  refine wp_iald _ (pc' := 57) rfl (by first | exact TK.k1 hT rfl | exact TK.kk hT rfl | exact TK.r hT rfl | assumption) (by with_reducible rfl) (by omega) (by first | decide | assumption | omega) rfl ?_
  rw [upr_same, hrd _ (by omega)]
  refine wp_iret rfl rfl rfl ?_
  exact kk _ hAJ
theorem m_pairsH {d : Nat} {K : Nat → Nat × Nat} {I : Nat → Nat → Int32} {L : Nat → Nat → Int64} {R : Nat → Nat → Option Nat} {n s : Nat} {Q : Lo → Lm → Prop} {H hh : Nat} {sh : Nat → Nat → Nat} (hT : TK K R n) (hw : I 319 0 = nI H) (hH6 : H ≤ 6) (hs : ShW (I 319) sh) (hh2 : hh < H) (kk : ∀ J, AskJ I J → Q (.inl (some (.int (pwF sh (paN sh H (2 ^ H - 1)) H hh (2 ^ H) (2 ^ H - 1))))) (K, J, L, R, n, s)) : Ok (d + 5) 344 [.ref 318, .int (nI hh)] (K, I, L, R, n, s) Q := by
  obtain ⟨-, -, hn⟩ := id hT
  have hpw := shl6 hH6
  refine Ok.enter (F := F_344) (ls := [.ref 318, .int (nI hh), lDead, lDead, lDead, lDead, lDead]) rfl rfl ?_
  refine wp_aload0 (pc' := 1) rfl rfl ?_
  refine wp_iconst (v := nI 0) (pc' := 2) rfl rfl rfl ?_
  refine wp_putI (pc' := 5) rfl rfl (by first | exact TK.k1 hT rfl | exact TK.kk hT rfl | exact TK.r hT rfl | assumption) (by omega) rfl ?_
  obtain ⟨M, hM⟩ : ∃ M, M = up2 I 318 0 (nI 0) := ⟨_, rfl⟩
  have hM9 : M 319 = I 319 := by rw [hM]; exact up2_row (by decide)
  have hM7 : M 318 7 = I 318 7 := by rw [hM, up2_same, if_neg (by decide)]
  rw [← hM]
  refine wp_aload0 (pc' := 6) rfl rfl ?_
  refine wp_iload1 (pc' := 7) rfl rfl ?_
  refine wp_iconst (v := (-1)) (pc' := 8) rfl rfl rfl ?_
  refine wp_icmpeqF (pc' := 11) rfl (nI_nm1 (by omega)) rfl ?_
  refine wp_aload0 (pc' := 12) rfl rfl ?_
  refine wp_iload1 (pc' := 13) rfl rfl ?_
  refine wp_callV2 (pc' := 16) rfl rfl rfl rfl rfl (by first | exact TK.k1 hT rfl | exact TK.kk hT rfl | exact TK.r hT rfl | assumption) rfl rfl ?_
  refine m_noH1 hT (by rw [hM9]; exact hw) hH6 hh2 ?_
  refine Cont.v ?_
  refine wp_ifeqT rfl rfl ?_
  refine wp_iconst (v := nI 0) (pc' := 24) rfl rfl rfl ?_
  refine wp_iconst (v := nI 1) (pc' := 25) rfl rfl rfl ?_
  refine wp_callV3 (pc' := 28) rfl rfl rfl rfl rfl (by first | exact TK.k1 hT rfl | exact TK.kk hT rfl | exact TK.r hT rfl | assumption) rfl rfl ?_
  refine m_tfN hT ?_
  refine Cont.v ?_
  refine wp_ifeqT rfl rfl ?_
  refine wp_aload0 (pc' := 34) rfl rfl ?_
  refine wp_callV1 (pc' := 37) rfl rfl rfl rfl rfl (by first | exact TK.k1 hT rfl | exact TK.kk hT rfl | exact TK.r hT rfl | assumption) rfl rfl ?_
  refine m_laysPairs (sh := sh) hT (by rw [hM9]; exact hw) hH6 (by rw [hM9]; exact hs) (fun V hV => ?_)
  have hrd : ∀ q, q < 2 ^ H → V q = nI ((paN sh H (2 ^ H - 1)) q) := fun q hq => hV q (by omega)
  have hAJ : AskJ I (upr M 335 V) := ask_mk0 (by rw [← hM]; exact KpS.rfl'.upr (by omega)) (by rw [upr_ne (by decide)]; exact hM9)
  refine Cont.u ?_
  refine wp_iconst (v := nI 1) (pc' := 38) rfl rfl rfl ?_
  refine wp_aload0 (pc' := 39) rfl rfl ?_
  refine wp_callV1 (pc' := 42) rfl rfl rfl rfl rfl (by first | exact TK.k1 hT rfl | exact TK.kk hT rfl | exact TK.r hT rfl | assumption) rfl rfl ?_
  refine m_hearths (H := H) hT (by rw [upr_ne (show (319 : Nat) ≠ 335 by decide), hM9]; exact hw) ?_
  refine Cont.v ?_
  refine wp_ishl (pc' := 43) rfl rfl ?_
  rw [hpw.1]
  refine wp_iconst (v := nI 1) (pc' := 44) rfl rfl rfl ?_
  first | refine wp_isubN (pc' := 45) rfl (by with_reducible rfl) (by with_reducible rfl) (by omega) rfl ?_ | refine wp_isub (pc' := 45) rfl rfl ?_
  refine wp_istore2 (pc' := 46) rfl (by first | rfl | assumption) rfl ?_
  refine wp_iload1 (pc' := 47) rfl rfl ?_
  refine wp_iconst (v := (-1)) (pc' := 48) rfl rfl rfl ?_
  refine wp_icmpneT rfl (nI_nm1 (by omega)) ?_
  refine wp_iconst (v := (-1)) (pc' := 59) rfl rfl rfl ?_
  refine wp_istore3 (pc' := 60) rfl (by first | rfl | assumption) rfl ?_
  refine wp_iconst (v := nI 0) (pc' := 61) rfl rfl rfl ?_
  refine wp_istore4 (pc' := 63) rfl (by first | rfl | assumption) rfl ?_
  have lp63 : ∀ r (m : Nat) (xw : Int32) (f : Bool) (v5 : Value) (v6 : Value), m + (if f = true then 0 else 1) ≤ r → m ≤ 2 ^ H - 1 → (f = false → pwF sh (paN sh H (2 ^ H - 1)) H hh (m + 1) m = pwF sh (paN sh H (2 ^ H - 1)) H hh (2 ^ H) (2 ^ H - 1) ∧ hasP (nI m) hh) → (f = true → xw = pwF sh (paN sh H (2 ^ H - 1)) H hh (2 ^ H) (2 ^ H - 1)) → isL v5 = false → isL v6 = false → WP (d + 4) F_344 63 [.ref 318, .int (nI hh), .int (nI m), .int xw, .int (if f = true then nI 1 else nI 0), v5, v6] [] (K, upr M 335 V, L, R, n, s) Q := by
    intro r; induction r with
    | zero =>
      intro m xw f v5 v6 hi hv0 hv1 hv2 hv3 hv4
      have hft : f = true := by
        apply Classical.byContradiction
        intro q
        rw [if_neg q] at hi
        omega
      have h65 := hft
      refine wp_iload4 (pc' := 65) rfl rfl ?_
      refine wp_ifneT rfl (by rw [hft]; decide) ?_
      refine wp_iload3 (pc' := 164) rfl rfl ?_
      refine wp_iret rfl rfl rfl ?_
      exact Qv (kk _ hAJ) (hv2 h65) rfl
    | succ r ih =>
      intro m xw f v5 v6 hi hv0 hv1 hv2 hv3 hv4
      refine wp_iload4 (pc' := 65) rfl rfl ?_
      first | refine wp_ifneB (pc' := 68) rfl rfl ?_ ?_ | refine wp_ifne (pc' := 68) rfl rfl ?_ ?_
      · intro h65
        refine wp_iload3 (pc' := 164) rfl rfl ?_
        refine wp_iret rfl rfl rfl ?_
        exact Qv (kk _ hAJ) (hv2 h65) rfl
      · intro h65
        have hm1 : 1 ≤ m := by
          apply Classical.byContradiction
          intro q
          have hpz := (hv1 (Bool.eq_false_iff.mpr h65)).2
          rw [show m = 0 by omega] at hpz
          exact has_0 ⟨hh, by omega⟩ hpz
        obtain ⟨k1, k2, k3⟩ := fk_ok (sh := sh) (H := H) (m := m) (i := 2 ^ H - 1) hH6 (by omega) hm1 hv0
        have hpz := hv1 (Bool.eq_false_iff.mpr h65)
        have hl6 := lw6_ok ⟨m, by omega⟩ hm1
        dsimp only at hl6
        refine wp_iload2 (pc' := 69) rfl rfl ?_
        refine wp_callS1 (pc' := 72) rfl rfl rfl rfl rfl rfl ?_
        refine m_firstOf (by omega) hm1 ?_
        refine Cont.v ?_
        refine wp_istore5 (pc' := 74) rfl (by first | rfl | assumption) rfl ?_
        refine wp_iconst (v := (-1)) (pc' := 75) rfl rfl rfl ?_
        refine wp_istore6 (pc' := 77) rfl (by first | rfl | assumption) rfl ?_
        have lp77 : ∀ rb (k : Nat), (fkP sh (paN sh H (2 ^ H - 1)) H m) + 1 ≤ k + rb → k ≤ (fkP sh (paN sh H (2 ^ H - 1)) H m) → WP (d + 4) F_344 77 [.ref 318, .int (nI hh), .int (nI m), .int xw, .int (if f = true then nI 1 else nI 0), .int (nI (lw6 m)), .int (nI k + (-1))] [] (K, upr M 335 V, L, R, n, s) Q := by
          intro rb; induction rb with
          | zero =>
            intro k hib hvb0
            exact absurd hib (by omega)
          | succ rb ihb =>
            intro k hib hvb0
            refine wp_aload0 (pc' := 78) rfl rfl ?_
            refine wp_iload2 (pc' := 79) rfl rfl ?_
            refine wp_iload6 (pc' := 81) rfl rfl ?_
            refine wp_callV3 (pc' := 84) rfl rfl rfl rfl rfl (by first | exact TK.k1 hT rfl | exact TK.kk hT rfl | exact TK.r hT rfl | assumption) rfl rfl ?_
            refine m_pbK (sh := sh) (P := (paN sh H (2 ^ H - 1))) hT (by rw [upr_ne (show (319 : Nat) ≠ 335 by decide), hM9]; exact hs) (fun q hq => by rw [upr_same]; exact hrd q (by omega)) (by omega) hm1 (by omega) ?_
            refine Cont.v ?_
            refine wp_aload0 (pc' := 85) rfl rfl ?_
            refine wp_getRF (pc' := 88) rfl rfl (by first | exact TK.k1 hT rfl | exact TK.kk hT rfl | exact TK.r hT rfl | assumption) (by first | exact TK.k1 hT rfl | exact TK.kk hT rfl | exact TK.r hT rfl | assumption) rfl ?_
            refine wp_iload2 (pc' := 89) rfl rfl ?_
            refine wp_iald _ (pc' := 90) rfl (by first | exact TK.k1 hT rfl | exact TK.kk hT rfl | exact TK.r hT rfl | assumption) (by with_reducible rfl) (by omega) (by first | decide | assumption | omega) rfl ?_
            rw [upr_same, hrd _ (by omega)]
            refine wp_icmpeq (pc' := 93) rfl rfl ?_ ?_
            · intro h90
              have hkk : k = (fkP sh (paN sh H (2 ^ H - 1)) H m) := Nat.le_antisymm hvb0 (Nat.le_of_not_lt (fun q => k3 k q ((pb_ne (by have := pb_bX (k := k) hs hH6 (show 2 ^ H - 1 ≤ 63 by omega) (show m < 64 by omega) hm1 (by omega); omega) (by have := paN_b hs hH6 (2 ^ H - 1) (by omega) m (by omega); omega)).mp h90)))
              have hnx := nx_lt (m := m) (k := k) (by omega) hm1 (by omega)
              refine wp_iload5 (pc' := 101) rfl rfl ?_
              refine wp_iload1 (pc' := 102) rfl rfl ?_
              refine wp_icmpeq (pc' := 105) rfl rfl ?_ ?_
              · intro h102
                refine wp_iconst (v := nI 1) (pc' := 112) rfl rfl rfl ?_
                refine wp_goto rfl ?_
                refine wp_istore4 (pc' := 118) rfl (by first | rfl | assumption) rfl ?_
                refine wp_iload5 (pc' := 120) rfl rfl ?_
                refine wp_iload1 (pc' := 121) rfl rfl ?_
                refine wp_icmpne (pc' := 124) rfl rfl ?_ ?_
                · intro h121
                  refine wp_iload5 (pc' := 131) rfl rfl ?_
                  refine wp_istore3 (pc' := 132) rfl (by first | rfl | assumption) rfl ?_
                  refine wp_iload2 (pc' := 133) rfl rfl ?_
                  refine wp_iconst (v := nI 1) (pc' := 134) rfl rfl rfl ?_
                  refine wp_iload5 (pc' := 136) rfl rfl ?_
                  refine wp_ishl (pc' := 137) rfl rfl ?_
                  refine wp_iconst (v := (-1)) (pc' := 138) rfl rfl rfl ?_
                  refine wp_ixor (pc' := 139) rfl rfl ?_
                  refine wp_iand (pc' := 140) rfl rfl ?_
                  rw [(clr_le ⟨m, by omega⟩ ⟨lw6 m, hl6.1⟩).2.2]
                  refine wp_istore2 (pc' := 141) rfl (by first | rfl | assumption) rfl ?_
                  refine wp_iload6 (pc' := 143) rfl rfl ?_
                  refine wp_iconst (v := (-1)) (pc' := 144) rfl rfl rfl ?_
                  refine wp_icmpne (pc' := 147) rfl rfl ?_ ?_
                  · intro h144
                    refine wp_iload2 (pc' := 152) rfl rfl ?_
                    refine wp_iconst (v := nI 1) (pc' := 153) rfl rfl rfl ?_
                    refine wp_iload6 (pc' := 155) rfl rfl ?_
                    refine wp_ishl (pc' := 156) rfl rfl ?_
                    refine wp_iconst (v := (-1)) (pc' := 157) rfl rfl rfl ?_
                    refine wp_ixor (pc' := 158) rfl rfl ?_
                    refine wp_iand (pc' := 159) rfl rfl ?_
                    rw [nx_k1 (by omega) hm1 (by omega) h144]
                    refine wp_istore2 (pc' := 160) rfl (by first | rfl | assumption) rfl ?_
                    refine wp_goto rfl ?_
                    exact WP.cg (ih (nxM m k) (if lw6 m = hh then nI k + (-1) else nI (lw6 m)) (decide (lw6 m = hh ∨ k = hh + 1)) _ _ (by rw [if_neg h65] at hi; split <;> omega) (by omega) (pw_n hH6 (by omega) (by omega) hm1 hv0 hpz hkk) (pw_y hpz hkk) (by first | rfl | assumption) (by first | rfl | assumption)) (lC1 (lI1 (by first | with_reducible rfl | with_reducible exact or_t1 (eq_nI h102 (by omega) (by omega)) | with_reducible exact or_t2 (k_eq ⟨k, by omega⟩ ⟨hh, by omega⟩ h108) | with_reducible exact or_f (mt (congrArg nI) h102) (mt k_eqr h108) | with_reducible exact wi_t (eq_nI h121 (by omega) (by omega)) | with_reducible exact wi_f (mt (congrArg nI) h121)) (lI1 (by first | with_reducible rfl | with_reducible exact or_t1 (eq_nI h102 (by omega) (by omega)) | with_reducible exact or_t2 (k_eq ⟨k, by omega⟩ ⟨hh, by omega⟩ h108) | with_reducible exact or_f (mt (congrArg nI) h102) (mt k_eqr h108) | with_reducible exact wi_t (eq_nI h121 (by omega) (by omega)) | with_reducible exact wi_f (mt (congrArg nI) h121)) (lI1 (by first | with_reducible rfl | with_reducible exact or_t1 (eq_nI h102 (by omega) (by omega)) | with_reducible exact or_t2 (k_eq ⟨k, by omega⟩ ⟨hh, by omega⟩ h108) | with_reducible exact or_f (mt (congrArg nI) h102) (mt k_eqr h108) | with_reducible exact wi_t (eq_nI h121 (by omega) (by omega)) | with_reducible exact wi_f (mt (congrArg nI) h121)) (lI1 (by first | with_reducible rfl | with_reducible exact or_t1 (eq_nI h102 (by omega) (by omega)) | with_reducible exact or_t2 (k_eq ⟨k, by omega⟩ ⟨hh, by omega⟩ h108) | with_reducible exact or_f (mt (congrArg nI) h102) (mt k_eqr h108) | with_reducible exact wi_t (eq_nI h121 (by omega) (by omega)) | with_reducible exact wi_f (mt (congrArg nI) h121)) (lC1 (lC1 rfl))))))) rfl (by rfl)
                  · intro h144
                    rw [show clr m (lw6 m) = nxM m k from nx_k0 (by omega) h144]
                    refine wp_iload2 (pc' := 148) rfl rfl ?_
                    refine wp_goto rfl ?_
                    refine wp_istore2 (pc' := 160) rfl (by first | rfl | assumption) rfl ?_
                    refine wp_goto rfl ?_
                    exact WP.cg (ih (nxM m k) (if lw6 m = hh then nI k + (-1) else nI (lw6 m)) (decide (lw6 m = hh ∨ k = hh + 1)) _ _ (by rw [if_neg h65] at hi; split <;> omega) (by omega) (pw_n hH6 (by omega) (by omega) hm1 hv0 hpz hkk) (pw_y hpz hkk) (by first | rfl | assumption) (by first | rfl | assumption)) (lC1 (lI1 (by first | with_reducible rfl | with_reducible exact or_t1 (eq_nI h102 (by omega) (by omega)) | with_reducible exact or_t2 (k_eq ⟨k, by omega⟩ ⟨hh, by omega⟩ h108) | with_reducible exact or_f (mt (congrArg nI) h102) (mt k_eqr h108) | with_reducible exact wi_t (eq_nI h121 (by omega) (by omega)) | with_reducible exact wi_f (mt (congrArg nI) h121)) (lI1 (by first | with_reducible rfl | with_reducible exact or_t1 (eq_nI h102 (by omega) (by omega)) | with_reducible exact or_t2 (k_eq ⟨k, by omega⟩ ⟨hh, by omega⟩ h108) | with_reducible exact or_f (mt (congrArg nI) h102) (mt k_eqr h108) | with_reducible exact wi_t (eq_nI h121 (by omega) (by omega)) | with_reducible exact wi_f (mt (congrArg nI) h121)) (lI1 (by first | with_reducible rfl | with_reducible exact or_t1 (eq_nI h102 (by omega) (by omega)) | with_reducible exact or_t2 (k_eq ⟨k, by omega⟩ ⟨hh, by omega⟩ h108) | with_reducible exact or_f (mt (congrArg nI) h102) (mt k_eqr h108) | with_reducible exact wi_t (eq_nI h121 (by omega) (by omega)) | with_reducible exact wi_f (mt (congrArg nI) h121)) (lI1 (by first | with_reducible rfl | with_reducible exact or_t1 (eq_nI h102 (by omega) (by omega)) | with_reducible exact or_t2 (k_eq ⟨k, by omega⟩ ⟨hh, by omega⟩ h108) | with_reducible exact or_f (mt (congrArg nI) h102) (mt k_eqr h108) | with_reducible exact wi_t (eq_nI h121 (by omega) (by omega)) | with_reducible exact wi_f (mt (congrArg nI) h121)) (lC1 (lC1 rfl))))))) rfl (by rfl)
                · intro h121
                  refine wp_iload6 (pc' := 126) rfl rfl ?_
                  refine wp_goto rfl ?_
                  refine wp_istore3 (pc' := 132) rfl (by first | rfl | assumption) rfl ?_
                  refine wp_iload2 (pc' := 133) rfl rfl ?_
                  refine wp_iconst (v := nI 1) (pc' := 134) rfl rfl rfl ?_
                  refine wp_iload5 (pc' := 136) rfl rfl ?_
                  refine wp_ishl (pc' := 137) rfl rfl ?_
                  refine wp_iconst (v := (-1)) (pc' := 138) rfl rfl rfl ?_
                  refine wp_ixor (pc' := 139) rfl rfl ?_
                  refine wp_iand (pc' := 140) rfl rfl ?_
                  rw [(clr_le ⟨m, by omega⟩ ⟨lw6 m, hl6.1⟩).2.2]
                  refine wp_istore2 (pc' := 141) rfl (by first | rfl | assumption) rfl ?_
                  refine wp_iload6 (pc' := 143) rfl rfl ?_
                  refine wp_iconst (v := (-1)) (pc' := 144) rfl rfl rfl ?_
                  refine wp_icmpne (pc' := 147) rfl rfl ?_ ?_
                  · intro h144
                    refine wp_iload2 (pc' := 152) rfl rfl ?_
                    refine wp_iconst (v := nI 1) (pc' := 153) rfl rfl rfl ?_
                    refine wp_iload6 (pc' := 155) rfl rfl ?_
                    refine wp_ishl (pc' := 156) rfl rfl ?_
                    refine wp_iconst (v := (-1)) (pc' := 157) rfl rfl rfl ?_
                    refine wp_ixor (pc' := 158) rfl rfl ?_
                    refine wp_iand (pc' := 159) rfl rfl ?_
                    rw [nx_k1 (by omega) hm1 (by omega) h144]
                    refine wp_istore2 (pc' := 160) rfl (by first | rfl | assumption) rfl ?_
                    refine wp_goto rfl ?_
                    exact WP.cg (ih (nxM m k) (if lw6 m = hh then nI k + (-1) else nI (lw6 m)) (decide (lw6 m = hh ∨ k = hh + 1)) _ _ (by rw [if_neg h65] at hi; split <;> omega) (by omega) (pw_n hH6 (by omega) (by omega) hm1 hv0 hpz hkk) (pw_y hpz hkk) (by first | rfl | assumption) (by first | rfl | assumption)) (lC1 (lI1 (by first | with_reducible rfl | with_reducible exact or_t1 (eq_nI h102 (by omega) (by omega)) | with_reducible exact or_t2 (k_eq ⟨k, by omega⟩ ⟨hh, by omega⟩ h108) | with_reducible exact or_f (mt (congrArg nI) h102) (mt k_eqr h108) | with_reducible exact wi_t (eq_nI h121 (by omega) (by omega)) | with_reducible exact wi_f (mt (congrArg nI) h121)) (lI1 (by first | with_reducible rfl | with_reducible exact or_t1 (eq_nI h102 (by omega) (by omega)) | with_reducible exact or_t2 (k_eq ⟨k, by omega⟩ ⟨hh, by omega⟩ h108) | with_reducible exact or_f (mt (congrArg nI) h102) (mt k_eqr h108) | with_reducible exact wi_t (eq_nI h121 (by omega) (by omega)) | with_reducible exact wi_f (mt (congrArg nI) h121)) (lI1 (by first | with_reducible rfl | with_reducible exact or_t1 (eq_nI h102 (by omega) (by omega)) | with_reducible exact or_t2 (k_eq ⟨k, by omega⟩ ⟨hh, by omega⟩ h108) | with_reducible exact or_f (mt (congrArg nI) h102) (mt k_eqr h108) | with_reducible exact wi_t (eq_nI h121 (by omega) (by omega)) | with_reducible exact wi_f (mt (congrArg nI) h121)) (lI1 (by first | with_reducible rfl | with_reducible exact or_t1 (eq_nI h102 (by omega) (by omega)) | with_reducible exact or_t2 (k_eq ⟨k, by omega⟩ ⟨hh, by omega⟩ h108) | with_reducible exact or_f (mt (congrArg nI) h102) (mt k_eqr h108) | with_reducible exact wi_t (eq_nI h121 (by omega) (by omega)) | with_reducible exact wi_f (mt (congrArg nI) h121)) (lC1 (lC1 rfl))))))) rfl (by rfl)
                  · intro h144
                    rw [show clr m (lw6 m) = nxM m k from nx_k0 (by omega) h144]
                    refine wp_iload2 (pc' := 148) rfl rfl ?_
                    refine wp_goto rfl ?_
                    refine wp_istore2 (pc' := 160) rfl (by first | rfl | assumption) rfl ?_
                    refine wp_goto rfl ?_
                    exact WP.cg (ih (nxM m k) (if lw6 m = hh then nI k + (-1) else nI (lw6 m)) (decide (lw6 m = hh ∨ k = hh + 1)) _ _ (by rw [if_neg h65] at hi; split <;> omega) (by omega) (pw_n hH6 (by omega) (by omega) hm1 hv0 hpz hkk) (pw_y hpz hkk) (by first | rfl | assumption) (by first | rfl | assumption)) (lC1 (lI1 (by first | with_reducible rfl | with_reducible exact or_t1 (eq_nI h102 (by omega) (by omega)) | with_reducible exact or_t2 (k_eq ⟨k, by omega⟩ ⟨hh, by omega⟩ h108) | with_reducible exact or_f (mt (congrArg nI) h102) (mt k_eqr h108) | with_reducible exact wi_t (eq_nI h121 (by omega) (by omega)) | with_reducible exact wi_f (mt (congrArg nI) h121)) (lI1 (by first | with_reducible rfl | with_reducible exact or_t1 (eq_nI h102 (by omega) (by omega)) | with_reducible exact or_t2 (k_eq ⟨k, by omega⟩ ⟨hh, by omega⟩ h108) | with_reducible exact or_f (mt (congrArg nI) h102) (mt k_eqr h108) | with_reducible exact wi_t (eq_nI h121 (by omega) (by omega)) | with_reducible exact wi_f (mt (congrArg nI) h121)) (lI1 (by first | with_reducible rfl | with_reducible exact or_t1 (eq_nI h102 (by omega) (by omega)) | with_reducible exact or_t2 (k_eq ⟨k, by omega⟩ ⟨hh, by omega⟩ h108) | with_reducible exact or_f (mt (congrArg nI) h102) (mt k_eqr h108) | with_reducible exact wi_t (eq_nI h121 (by omega) (by omega)) | with_reducible exact wi_f (mt (congrArg nI) h121)) (lI1 (by first | with_reducible rfl | with_reducible exact or_t1 (eq_nI h102 (by omega) (by omega)) | with_reducible exact or_t2 (k_eq ⟨k, by omega⟩ ⟨hh, by omega⟩ h108) | with_reducible exact or_f (mt (congrArg nI) h102) (mt k_eqr h108) | with_reducible exact wi_t (eq_nI h121 (by omega) (by omega)) | with_reducible exact wi_f (mt (congrArg nI) h121)) (lC1 (lC1 rfl))))))) rfl (by rfl)
              · intro h102
                refine wp_iload6 (pc' := 107) rfl rfl ?_
                refine wp_iload1 (pc' := 108) rfl rfl ?_
                refine wp_icmpne (pc' := 111) rfl rfl ?_ ?_
                · intro h108
                  refine wp_iconst (v := nI 0) (pc' := 116) rfl rfl rfl ?_
                  refine wp_istore4 (pc' := 118) rfl (by first | rfl | assumption) rfl ?_
                  refine wp_iload5 (pc' := 120) rfl rfl ?_
                  refine wp_iload1 (pc' := 121) rfl rfl ?_
                  refine wp_icmpne (pc' := 124) rfl rfl ?_ ?_
                  · intro h121
                    refine wp_iload5 (pc' := 131) rfl rfl ?_
                    refine wp_istore3 (pc' := 132) rfl (by first | rfl | assumption) rfl ?_
                    refine wp_iload2 (pc' := 133) rfl rfl ?_
                    refine wp_iconst (v := nI 1) (pc' := 134) rfl rfl rfl ?_
                    refine wp_iload5 (pc' := 136) rfl rfl ?_
                    refine wp_ishl (pc' := 137) rfl rfl ?_
                    refine wp_iconst (v := (-1)) (pc' := 138) rfl rfl rfl ?_
                    refine wp_ixor (pc' := 139) rfl rfl ?_
                    refine wp_iand (pc' := 140) rfl rfl ?_
                    rw [(clr_le ⟨m, by omega⟩ ⟨lw6 m, hl6.1⟩).2.2]
                    refine wp_istore2 (pc' := 141) rfl (by first | rfl | assumption) rfl ?_
                    refine wp_iload6 (pc' := 143) rfl rfl ?_
                    refine wp_iconst (v := (-1)) (pc' := 144) rfl rfl rfl ?_
                    refine wp_icmpne (pc' := 147) rfl rfl ?_ ?_
                    · intro h144
                      refine wp_iload2 (pc' := 152) rfl rfl ?_
                      refine wp_iconst (v := nI 1) (pc' := 153) rfl rfl rfl ?_
                      refine wp_iload6 (pc' := 155) rfl rfl ?_
                      refine wp_ishl (pc' := 156) rfl rfl ?_
                      refine wp_iconst (v := (-1)) (pc' := 157) rfl rfl rfl ?_
                      refine wp_ixor (pc' := 158) rfl rfl ?_
                      refine wp_iand (pc' := 159) rfl rfl ?_
                      rw [nx_k1 (by omega) hm1 (by omega) h144]
                      refine wp_istore2 (pc' := 160) rfl (by first | rfl | assumption) rfl ?_
                      refine wp_goto rfl ?_
                      exact WP.cg (ih (nxM m k) (if lw6 m = hh then nI k + (-1) else nI (lw6 m)) (decide (lw6 m = hh ∨ k = hh + 1)) _ _ (by rw [if_neg h65] at hi; split <;> omega) (by omega) (pw_n hH6 (by omega) (by omega) hm1 hv0 hpz hkk) (pw_y hpz hkk) (by first | rfl | assumption) (by first | rfl | assumption)) (lC1 (lI1 (by first | with_reducible rfl | with_reducible exact or_t1 (eq_nI h102 (by omega) (by omega)) | with_reducible exact or_t2 (k_eq ⟨k, by omega⟩ ⟨hh, by omega⟩ h108) | with_reducible exact or_f (mt (congrArg nI) h102) (mt k_eqr h108) | with_reducible exact wi_t (eq_nI h121 (by omega) (by omega)) | with_reducible exact wi_f (mt (congrArg nI) h121)) (lI1 (by first | with_reducible rfl | with_reducible exact or_t1 (eq_nI h102 (by omega) (by omega)) | with_reducible exact or_t2 (k_eq ⟨k, by omega⟩ ⟨hh, by omega⟩ h108) | with_reducible exact or_f (mt (congrArg nI) h102) (mt k_eqr h108) | with_reducible exact wi_t (eq_nI h121 (by omega) (by omega)) | with_reducible exact wi_f (mt (congrArg nI) h121)) (lI1 (by first | with_reducible rfl | with_reducible exact or_t1 (eq_nI h102 (by omega) (by omega)) | with_reducible exact or_t2 (k_eq ⟨k, by omega⟩ ⟨hh, by omega⟩ h108) | with_reducible exact or_f (mt (congrArg nI) h102) (mt k_eqr h108) | with_reducible exact wi_t (eq_nI h121 (by omega) (by omega)) | with_reducible exact wi_f (mt (congrArg nI) h121)) (lI1 (by first | with_reducible rfl | with_reducible exact or_t1 (eq_nI h102 (by omega) (by omega)) | with_reducible exact or_t2 (k_eq ⟨k, by omega⟩ ⟨hh, by omega⟩ h108) | with_reducible exact or_f (mt (congrArg nI) h102) (mt k_eqr h108) | with_reducible exact wi_t (eq_nI h121 (by omega) (by omega)) | with_reducible exact wi_f (mt (congrArg nI) h121)) (lC1 (lC1 rfl))))))) rfl (by rfl)
                    · intro h144
                      rw [show clr m (lw6 m) = nxM m k from nx_k0 (by omega) h144]
                      refine wp_iload2 (pc' := 148) rfl rfl ?_
                      refine wp_goto rfl ?_
                      refine wp_istore2 (pc' := 160) rfl (by first | rfl | assumption) rfl ?_
                      refine wp_goto rfl ?_
                      exact WP.cg (ih (nxM m k) (if lw6 m = hh then nI k + (-1) else nI (lw6 m)) (decide (lw6 m = hh ∨ k = hh + 1)) _ _ (by rw [if_neg h65] at hi; split <;> omega) (by omega) (pw_n hH6 (by omega) (by omega) hm1 hv0 hpz hkk) (pw_y hpz hkk) (by first | rfl | assumption) (by first | rfl | assumption)) (lC1 (lI1 (by first | with_reducible rfl | with_reducible exact or_t1 (eq_nI h102 (by omega) (by omega)) | with_reducible exact or_t2 (k_eq ⟨k, by omega⟩ ⟨hh, by omega⟩ h108) | with_reducible exact or_f (mt (congrArg nI) h102) (mt k_eqr h108) | with_reducible exact wi_t (eq_nI h121 (by omega) (by omega)) | with_reducible exact wi_f (mt (congrArg nI) h121)) (lI1 (by first | with_reducible rfl | with_reducible exact or_t1 (eq_nI h102 (by omega) (by omega)) | with_reducible exact or_t2 (k_eq ⟨k, by omega⟩ ⟨hh, by omega⟩ h108) | with_reducible exact or_f (mt (congrArg nI) h102) (mt k_eqr h108) | with_reducible exact wi_t (eq_nI h121 (by omega) (by omega)) | with_reducible exact wi_f (mt (congrArg nI) h121)) (lI1 (by first | with_reducible rfl | with_reducible exact or_t1 (eq_nI h102 (by omega) (by omega)) | with_reducible exact or_t2 (k_eq ⟨k, by omega⟩ ⟨hh, by omega⟩ h108) | with_reducible exact or_f (mt (congrArg nI) h102) (mt k_eqr h108) | with_reducible exact wi_t (eq_nI h121 (by omega) (by omega)) | with_reducible exact wi_f (mt (congrArg nI) h121)) (lI1 (by first | with_reducible rfl | with_reducible exact or_t1 (eq_nI h102 (by omega) (by omega)) | with_reducible exact or_t2 (k_eq ⟨k, by omega⟩ ⟨hh, by omega⟩ h108) | with_reducible exact or_f (mt (congrArg nI) h102) (mt k_eqr h108) | with_reducible exact wi_t (eq_nI h121 (by omega) (by omega)) | with_reducible exact wi_f (mt (congrArg nI) h121)) (lC1 (lC1 rfl))))))) rfl (by rfl)
                  · intro h121
                    refine wp_iload6 (pc' := 126) rfl rfl ?_
                    refine wp_goto rfl ?_
                    refine wp_istore3 (pc' := 132) rfl (by first | rfl | assumption) rfl ?_
                    refine wp_iload2 (pc' := 133) rfl rfl ?_
                    refine wp_iconst (v := nI 1) (pc' := 134) rfl rfl rfl ?_
                    refine wp_iload5 (pc' := 136) rfl rfl ?_
                    refine wp_ishl (pc' := 137) rfl rfl ?_
                    refine wp_iconst (v := (-1)) (pc' := 138) rfl rfl rfl ?_
                    refine wp_ixor (pc' := 139) rfl rfl ?_
                    refine wp_iand (pc' := 140) rfl rfl ?_
                    rw [(clr_le ⟨m, by omega⟩ ⟨lw6 m, hl6.1⟩).2.2]
                    refine wp_istore2 (pc' := 141) rfl (by first | rfl | assumption) rfl ?_
                    refine wp_iload6 (pc' := 143) rfl rfl ?_
                    refine wp_iconst (v := (-1)) (pc' := 144) rfl rfl rfl ?_
                    refine wp_icmpne (pc' := 147) rfl rfl ?_ ?_
                    · intro h144
                      refine wp_iload2 (pc' := 152) rfl rfl ?_
                      refine wp_iconst (v := nI 1) (pc' := 153) rfl rfl rfl ?_
                      refine wp_iload6 (pc' := 155) rfl rfl ?_
                      refine wp_ishl (pc' := 156) rfl rfl ?_
                      refine wp_iconst (v := (-1)) (pc' := 157) rfl rfl rfl ?_
                      refine wp_ixor (pc' := 158) rfl rfl ?_
                      refine wp_iand (pc' := 159) rfl rfl ?_
                      rw [nx_k1 (by omega) hm1 (by omega) h144]
                      refine wp_istore2 (pc' := 160) rfl (by first | rfl | assumption) rfl ?_
                      refine wp_goto rfl ?_
                      exact WP.cg (ih (nxM m k) (if lw6 m = hh then nI k + (-1) else nI (lw6 m)) (decide (lw6 m = hh ∨ k = hh + 1)) _ _ (by rw [if_neg h65] at hi; split <;> omega) (by omega) (pw_n hH6 (by omega) (by omega) hm1 hv0 hpz hkk) (pw_y hpz hkk) (by first | rfl | assumption) (by first | rfl | assumption)) (lC1 (lI1 (by first | with_reducible rfl | with_reducible exact or_t1 (eq_nI h102 (by omega) (by omega)) | with_reducible exact or_t2 (k_eq ⟨k, by omega⟩ ⟨hh, by omega⟩ h108) | with_reducible exact or_f (mt (congrArg nI) h102) (mt k_eqr h108) | with_reducible exact wi_t (eq_nI h121 (by omega) (by omega)) | with_reducible exact wi_f (mt (congrArg nI) h121)) (lI1 (by first | with_reducible rfl | with_reducible exact or_t1 (eq_nI h102 (by omega) (by omega)) | with_reducible exact or_t2 (k_eq ⟨k, by omega⟩ ⟨hh, by omega⟩ h108) | with_reducible exact or_f (mt (congrArg nI) h102) (mt k_eqr h108) | with_reducible exact wi_t (eq_nI h121 (by omega) (by omega)) | with_reducible exact wi_f (mt (congrArg nI) h121)) (lI1 (by first | with_reducible rfl | with_reducible exact or_t1 (eq_nI h102 (by omega) (by omega)) | with_reducible exact or_t2 (k_eq ⟨k, by omega⟩ ⟨hh, by omega⟩ h108) | with_reducible exact or_f (mt (congrArg nI) h102) (mt k_eqr h108) | with_reducible exact wi_t (eq_nI h121 (by omega) (by omega)) | with_reducible exact wi_f (mt (congrArg nI) h121)) (lI1 (by first | with_reducible rfl | with_reducible exact or_t1 (eq_nI h102 (by omega) (by omega)) | with_reducible exact or_t2 (k_eq ⟨k, by omega⟩ ⟨hh, by omega⟩ h108) | with_reducible exact or_f (mt (congrArg nI) h102) (mt k_eqr h108) | with_reducible exact wi_t (eq_nI h121 (by omega) (by omega)) | with_reducible exact wi_f (mt (congrArg nI) h121)) (lC1 (lC1 rfl))))))) rfl (by rfl)
                    · intro h144
                      rw [show clr m (lw6 m) = nxM m k from nx_k0 (by omega) h144]
                      refine wp_iload2 (pc' := 148) rfl rfl ?_
                      refine wp_goto rfl ?_
                      refine wp_istore2 (pc' := 160) rfl (by first | rfl | assumption) rfl ?_
                      refine wp_goto rfl ?_
                      exact WP.cg (ih (nxM m k) (if lw6 m = hh then nI k + (-1) else nI (lw6 m)) (decide (lw6 m = hh ∨ k = hh + 1)) _ _ (by rw [if_neg h65] at hi; split <;> omega) (by omega) (pw_n hH6 (by omega) (by omega) hm1 hv0 hpz hkk) (pw_y hpz hkk) (by first | rfl | assumption) (by first | rfl | assumption)) (lC1 (lI1 (by first | with_reducible rfl | with_reducible exact or_t1 (eq_nI h102 (by omega) (by omega)) | with_reducible exact or_t2 (k_eq ⟨k, by omega⟩ ⟨hh, by omega⟩ h108) | with_reducible exact or_f (mt (congrArg nI) h102) (mt k_eqr h108) | with_reducible exact wi_t (eq_nI h121 (by omega) (by omega)) | with_reducible exact wi_f (mt (congrArg nI) h121)) (lI1 (by first | with_reducible rfl | with_reducible exact or_t1 (eq_nI h102 (by omega) (by omega)) | with_reducible exact or_t2 (k_eq ⟨k, by omega⟩ ⟨hh, by omega⟩ h108) | with_reducible exact or_f (mt (congrArg nI) h102) (mt k_eqr h108) | with_reducible exact wi_t (eq_nI h121 (by omega) (by omega)) | with_reducible exact wi_f (mt (congrArg nI) h121)) (lI1 (by first | with_reducible rfl | with_reducible exact or_t1 (eq_nI h102 (by omega) (by omega)) | with_reducible exact or_t2 (k_eq ⟨k, by omega⟩ ⟨hh, by omega⟩ h108) | with_reducible exact or_f (mt (congrArg nI) h102) (mt k_eqr h108) | with_reducible exact wi_t (eq_nI h121 (by omega) (by omega)) | with_reducible exact wi_f (mt (congrArg nI) h121)) (lI1 (by first | with_reducible rfl | with_reducible exact or_t1 (eq_nI h102 (by omega) (by omega)) | with_reducible exact or_t2 (k_eq ⟨k, by omega⟩ ⟨hh, by omega⟩ h108) | with_reducible exact or_f (mt (congrArg nI) h102) (mt k_eqr h108) | with_reducible exact wi_t (eq_nI h121 (by omega) (by omega)) | with_reducible exact wi_f (mt (congrArg nI) h121)) (lC1 (lC1 rfl))))))) rfl (by rfl)
                · intro h108
                  refine wp_iconst (v := nI 1) (pc' := 112) rfl rfl rfl ?_
                  refine wp_goto rfl ?_
                  refine wp_istore4 (pc' := 118) rfl (by first | rfl | assumption) rfl ?_
                  refine wp_iload5 (pc' := 120) rfl rfl ?_
                  refine wp_iload1 (pc' := 121) rfl rfl ?_
                  refine wp_icmpne (pc' := 124) rfl rfl ?_ ?_
                  · intro h121
                    refine wp_iload5 (pc' := 131) rfl rfl ?_
                    refine wp_istore3 (pc' := 132) rfl (by first | rfl | assumption) rfl ?_
                    refine wp_iload2 (pc' := 133) rfl rfl ?_
                    refine wp_iconst (v := nI 1) (pc' := 134) rfl rfl rfl ?_
                    refine wp_iload5 (pc' := 136) rfl rfl ?_
                    refine wp_ishl (pc' := 137) rfl rfl ?_
                    refine wp_iconst (v := (-1)) (pc' := 138) rfl rfl rfl ?_
                    refine wp_ixor (pc' := 139) rfl rfl ?_
                    refine wp_iand (pc' := 140) rfl rfl ?_
                    rw [(clr_le ⟨m, by omega⟩ ⟨lw6 m, hl6.1⟩).2.2]
                    refine wp_istore2 (pc' := 141) rfl (by first | rfl | assumption) rfl ?_
                    refine wp_iload6 (pc' := 143) rfl rfl ?_
                    refine wp_iconst (v := (-1)) (pc' := 144) rfl rfl rfl ?_
                    refine wp_icmpne (pc' := 147) rfl rfl ?_ ?_
                    · intro h144
                      refine wp_iload2 (pc' := 152) rfl rfl ?_
                      refine wp_iconst (v := nI 1) (pc' := 153) rfl rfl rfl ?_
                      refine wp_iload6 (pc' := 155) rfl rfl ?_
                      refine wp_ishl (pc' := 156) rfl rfl ?_
                      refine wp_iconst (v := (-1)) (pc' := 157) rfl rfl rfl ?_
                      refine wp_ixor (pc' := 158) rfl rfl ?_
                      refine wp_iand (pc' := 159) rfl rfl ?_
                      rw [nx_k1 (by omega) hm1 (by omega) h144]
                      refine wp_istore2 (pc' := 160) rfl (by first | rfl | assumption) rfl ?_
                      refine wp_goto rfl ?_
                      exact WP.cg (ih (nxM m k) (if lw6 m = hh then nI k + (-1) else nI (lw6 m)) (decide (lw6 m = hh ∨ k = hh + 1)) _ _ (by rw [if_neg h65] at hi; split <;> omega) (by omega) (pw_n hH6 (by omega) (by omega) hm1 hv0 hpz hkk) (pw_y hpz hkk) (by first | rfl | assumption) (by first | rfl | assumption)) (lC1 (lI1 (by first | with_reducible rfl | with_reducible exact or_t1 (eq_nI h102 (by omega) (by omega)) | with_reducible exact or_t2 (k_eq ⟨k, by omega⟩ ⟨hh, by omega⟩ h108) | with_reducible exact or_f (mt (congrArg nI) h102) (mt k_eqr h108) | with_reducible exact wi_t (eq_nI h121 (by omega) (by omega)) | with_reducible exact wi_f (mt (congrArg nI) h121)) (lI1 (by first | with_reducible rfl | with_reducible exact or_t1 (eq_nI h102 (by omega) (by omega)) | with_reducible exact or_t2 (k_eq ⟨k, by omega⟩ ⟨hh, by omega⟩ h108) | with_reducible exact or_f (mt (congrArg nI) h102) (mt k_eqr h108) | with_reducible exact wi_t (eq_nI h121 (by omega) (by omega)) | with_reducible exact wi_f (mt (congrArg nI) h121)) (lI1 (by first | with_reducible rfl | with_reducible exact or_t1 (eq_nI h102 (by omega) (by omega)) | with_reducible exact or_t2 (k_eq ⟨k, by omega⟩ ⟨hh, by omega⟩ h108) | with_reducible exact or_f (mt (congrArg nI) h102) (mt k_eqr h108) | with_reducible exact wi_t (eq_nI h121 (by omega) (by omega)) | with_reducible exact wi_f (mt (congrArg nI) h121)) (lI1 (by first | with_reducible rfl | with_reducible exact or_t1 (eq_nI h102 (by omega) (by omega)) | with_reducible exact or_t2 (k_eq ⟨k, by omega⟩ ⟨hh, by omega⟩ h108) | with_reducible exact or_f (mt (congrArg nI) h102) (mt k_eqr h108) | with_reducible exact wi_t (eq_nI h121 (by omega) (by omega)) | with_reducible exact wi_f (mt (congrArg nI) h121)) (lC1 (lC1 rfl))))))) rfl (by rfl)
                    · intro h144
                      rw [show clr m (lw6 m) = nxM m k from nx_k0 (by omega) h144]
                      refine wp_iload2 (pc' := 148) rfl rfl ?_
                      refine wp_goto rfl ?_
                      refine wp_istore2 (pc' := 160) rfl (by first | rfl | assumption) rfl ?_
                      refine wp_goto rfl ?_
                      exact WP.cg (ih (nxM m k) (if lw6 m = hh then nI k + (-1) else nI (lw6 m)) (decide (lw6 m = hh ∨ k = hh + 1)) _ _ (by rw [if_neg h65] at hi; split <;> omega) (by omega) (pw_n hH6 (by omega) (by omega) hm1 hv0 hpz hkk) (pw_y hpz hkk) (by first | rfl | assumption) (by first | rfl | assumption)) (lC1 (lI1 (by first | with_reducible rfl | with_reducible exact or_t1 (eq_nI h102 (by omega) (by omega)) | with_reducible exact or_t2 (k_eq ⟨k, by omega⟩ ⟨hh, by omega⟩ h108) | with_reducible exact or_f (mt (congrArg nI) h102) (mt k_eqr h108) | with_reducible exact wi_t (eq_nI h121 (by omega) (by omega)) | with_reducible exact wi_f (mt (congrArg nI) h121)) (lI1 (by first | with_reducible rfl | with_reducible exact or_t1 (eq_nI h102 (by omega) (by omega)) | with_reducible exact or_t2 (k_eq ⟨k, by omega⟩ ⟨hh, by omega⟩ h108) | with_reducible exact or_f (mt (congrArg nI) h102) (mt k_eqr h108) | with_reducible exact wi_t (eq_nI h121 (by omega) (by omega)) | with_reducible exact wi_f (mt (congrArg nI) h121)) (lI1 (by first | with_reducible rfl | with_reducible exact or_t1 (eq_nI h102 (by omega) (by omega)) | with_reducible exact or_t2 (k_eq ⟨k, by omega⟩ ⟨hh, by omega⟩ h108) | with_reducible exact or_f (mt (congrArg nI) h102) (mt k_eqr h108) | with_reducible exact wi_t (eq_nI h121 (by omega) (by omega)) | with_reducible exact wi_f (mt (congrArg nI) h121)) (lI1 (by first | with_reducible rfl | with_reducible exact or_t1 (eq_nI h102 (by omega) (by omega)) | with_reducible exact or_t2 (k_eq ⟨k, by omega⟩ ⟨hh, by omega⟩ h108) | with_reducible exact or_f (mt (congrArg nI) h102) (mt k_eqr h108) | with_reducible exact wi_t (eq_nI h121 (by omega) (by omega)) | with_reducible exact wi_f (mt (congrArg nI) h121)) (lC1 (lC1 rfl))))))) rfl (by rfl)
                  · intro h121
                    refine wp_iload6 (pc' := 126) rfl rfl ?_
                    refine wp_goto rfl ?_
                    refine wp_istore3 (pc' := 132) rfl (by first | rfl | assumption) rfl ?_
                    refine wp_iload2 (pc' := 133) rfl rfl ?_
                    refine wp_iconst (v := nI 1) (pc' := 134) rfl rfl rfl ?_
                    refine wp_iload5 (pc' := 136) rfl rfl ?_
                    refine wp_ishl (pc' := 137) rfl rfl ?_
                    refine wp_iconst (v := (-1)) (pc' := 138) rfl rfl rfl ?_
                    refine wp_ixor (pc' := 139) rfl rfl ?_
                    refine wp_iand (pc' := 140) rfl rfl ?_
                    rw [(clr_le ⟨m, by omega⟩ ⟨lw6 m, hl6.1⟩).2.2]
                    refine wp_istore2 (pc' := 141) rfl (by first | rfl | assumption) rfl ?_
                    refine wp_iload6 (pc' := 143) rfl rfl ?_
                    refine wp_iconst (v := (-1)) (pc' := 144) rfl rfl rfl ?_
                    refine wp_icmpne (pc' := 147) rfl rfl ?_ ?_
                    · intro h144
                      refine wp_iload2 (pc' := 152) rfl rfl ?_
                      refine wp_iconst (v := nI 1) (pc' := 153) rfl rfl rfl ?_
                      refine wp_iload6 (pc' := 155) rfl rfl ?_
                      refine wp_ishl (pc' := 156) rfl rfl ?_
                      refine wp_iconst (v := (-1)) (pc' := 157) rfl rfl rfl ?_
                      refine wp_ixor (pc' := 158) rfl rfl ?_
                      refine wp_iand (pc' := 159) rfl rfl ?_
                      rw [nx_k1 (by omega) hm1 (by omega) h144]
                      refine wp_istore2 (pc' := 160) rfl (by first | rfl | assumption) rfl ?_
                      refine wp_goto rfl ?_
                      exact WP.cg (ih (nxM m k) (if lw6 m = hh then nI k + (-1) else nI (lw6 m)) (decide (lw6 m = hh ∨ k = hh + 1)) _ _ (by rw [if_neg h65] at hi; split <;> omega) (by omega) (pw_n hH6 (by omega) (by omega) hm1 hv0 hpz hkk) (pw_y hpz hkk) (by first | rfl | assumption) (by first | rfl | assumption)) (lC1 (lI1 (by first | with_reducible rfl | with_reducible exact or_t1 (eq_nI h102 (by omega) (by omega)) | with_reducible exact or_t2 (k_eq ⟨k, by omega⟩ ⟨hh, by omega⟩ h108) | with_reducible exact or_f (mt (congrArg nI) h102) (mt k_eqr h108) | with_reducible exact wi_t (eq_nI h121 (by omega) (by omega)) | with_reducible exact wi_f (mt (congrArg nI) h121)) (lI1 (by first | with_reducible rfl | with_reducible exact or_t1 (eq_nI h102 (by omega) (by omega)) | with_reducible exact or_t2 (k_eq ⟨k, by omega⟩ ⟨hh, by omega⟩ h108) | with_reducible exact or_f (mt (congrArg nI) h102) (mt k_eqr h108) | with_reducible exact wi_t (eq_nI h121 (by omega) (by omega)) | with_reducible exact wi_f (mt (congrArg nI) h121)) (lI1 (by first | with_reducible rfl | with_reducible exact or_t1 (eq_nI h102 (by omega) (by omega)) | with_reducible exact or_t2 (k_eq ⟨k, by omega⟩ ⟨hh, by omega⟩ h108) | with_reducible exact or_f (mt (congrArg nI) h102) (mt k_eqr h108) | with_reducible exact wi_t (eq_nI h121 (by omega) (by omega)) | with_reducible exact wi_f (mt (congrArg nI) h121)) (lI1 (by first | with_reducible rfl | with_reducible exact or_t1 (eq_nI h102 (by omega) (by omega)) | with_reducible exact or_t2 (k_eq ⟨k, by omega⟩ ⟨hh, by omega⟩ h108) | with_reducible exact or_f (mt (congrArg nI) h102) (mt k_eqr h108) | with_reducible exact wi_t (eq_nI h121 (by omega) (by omega)) | with_reducible exact wi_f (mt (congrArg nI) h121)) (lC1 (lC1 rfl))))))) rfl (by rfl)
                    · intro h144
                      rw [show clr m (lw6 m) = nxM m k from nx_k0 (by omega) h144]
                      refine wp_iload2 (pc' := 148) rfl rfl ?_
                      refine wp_goto rfl ?_
                      refine wp_istore2 (pc' := 160) rfl (by first | rfl | assumption) rfl ?_
                      refine wp_goto rfl ?_
                      exact WP.cg (ih (nxM m k) (if lw6 m = hh then nI k + (-1) else nI (lw6 m)) (decide (lw6 m = hh ∨ k = hh + 1)) _ _ (by rw [if_neg h65] at hi; split <;> omega) (by omega) (pw_n hH6 (by omega) (by omega) hm1 hv0 hpz hkk) (pw_y hpz hkk) (by first | rfl | assumption) (by first | rfl | assumption)) (lC1 (lI1 (by first | with_reducible rfl | with_reducible exact or_t1 (eq_nI h102 (by omega) (by omega)) | with_reducible exact or_t2 (k_eq ⟨k, by omega⟩ ⟨hh, by omega⟩ h108) | with_reducible exact or_f (mt (congrArg nI) h102) (mt k_eqr h108) | with_reducible exact wi_t (eq_nI h121 (by omega) (by omega)) | with_reducible exact wi_f (mt (congrArg nI) h121)) (lI1 (by first | with_reducible rfl | with_reducible exact or_t1 (eq_nI h102 (by omega) (by omega)) | with_reducible exact or_t2 (k_eq ⟨k, by omega⟩ ⟨hh, by omega⟩ h108) | with_reducible exact or_f (mt (congrArg nI) h102) (mt k_eqr h108) | with_reducible exact wi_t (eq_nI h121 (by omega) (by omega)) | with_reducible exact wi_f (mt (congrArg nI) h121)) (lI1 (by first | with_reducible rfl | with_reducible exact or_t1 (eq_nI h102 (by omega) (by omega)) | with_reducible exact or_t2 (k_eq ⟨k, by omega⟩ ⟨hh, by omega⟩ h108) | with_reducible exact or_f (mt (congrArg nI) h102) (mt k_eqr h108) | with_reducible exact wi_t (eq_nI h121 (by omega) (by omega)) | with_reducible exact wi_f (mt (congrArg nI) h121)) (lI1 (by first | with_reducible rfl | with_reducible exact or_t1 (eq_nI h102 (by omega) (by omega)) | with_reducible exact or_t2 (k_eq ⟨k, by omega⟩ ⟨hh, by omega⟩ h108) | with_reducible exact or_f (mt (congrArg nI) h102) (mt k_eqr h108) | with_reducible exact wi_t (eq_nI h121 (by omega) (by omega)) | with_reducible exact wi_f (mt (congrArg nI) h121)) (lC1 (lC1 rfl))))))) rfl (by rfl)
            · intro h90
              first | refine wp_iinc6 (w := nI 1) (pc' := 96) rfl rfl rfl (by with_reducible exact nI_add _ _) rfl ?_ | refine wp_iinc6 (w := nI 1) (pc' := 96) rfl rfl rfl rfl rfl ?_
              refine wp_goto rfl ?_
              exact WP.cg (ihb (k + 1) (by omega) (Nat.lt_of_le_of_ne hvb0 (fun q => h90 ((pb_ne (by have := pb_bX (k := k) hs hH6 (show 2 ^ H - 1 ≤ 63 by omega) (show m < 64 by omega) hm1 (by omega); omega) (by have := paN_b hs hH6 (2 ^ H - 1) (by omega) m (by omega); omega)).mpr (by rw [q]; exact k2))))) (lC1 (lI1 (by first | with_reducible rfl | with_reducible exact k_inc) (lI1 (by first | with_reducible rfl | with_reducible exact k_inc) (lI1 (by first | with_reducible rfl | with_reducible exact k_inc) (lI1 (by first | with_reducible rfl | with_reducible exact k_inc) (lI1 (by first | with_reducible rfl | with_reducible exact k_inc) (lI1 (by first | with_reducible rfl | with_reducible exact k_inc) rfl))))))) rfl (by rfl)
        exact WP.cg (lp77 8 (0) (by omega) (Nat.zero_le _)) (lC1 (lI1 (by first | with_reducible rfl | decide | rfl) (lI1 (by first | with_reducible rfl | decide | rfl) (lI1 (by first | with_reducible rfl | decide | rfl) (lI1 (by first | with_reducible rfl | decide | rfl) (lI1 (by first | with_reducible rfl | decide | rfl) (lI1 (by first | with_reducible rfl | decide | rfl) rfl))))))) rfl (by rfl)
  exact WP.cg (lp63 65 (2 ^ H - 1) (-1) false _ _ (by rw [if_neg (by decide)]; omega) (Nat.le_refl _) (fun _ => ⟨by rw [show 2 ^ H - 1 + 1 = 2 ^ H by omega], all_has ⟨H, by omega⟩ ⟨hh, by omega⟩ hh2⟩) (fun q => absurd q (by decide)) (by first | rfl | assumption) (by first | rfl | assumption)) (lC1 (lI1 (by first | with_reducible rfl | rfl) (lI1 (by first | with_reducible rfl | rfl) (lI1 (by first | with_reducible rfl | rfl) (lI1 (by first | with_reducible rfl | rfl) (lC1 (lC1 rfl))))))) rfl (by rfl)
theorem m_pairsE {d : Nat} {K : Nat → Nat × Nat} {I : Nat → Nat → Int32} {L : Nat → Nat → Int64} {R : Nat → Nat → Option Nat} {n s : Nat} {Q : Lo → Lm → Prop} {H : Nat} {x : Int32} (hT : TK K R n) (hw : I 319 0 = nI H) (hH6 : H ≤ 6) (hx1 : ¬ x = -1) (hx : ¬ InR x H) (kk : Q (.inl (some (.int (nI 0)))) (K, up2 I 318 0 (nI 1), L, R, n, s)) : Ok (d + 5) 344 [.ref 318, .int x] (K, I, L, R, n, s) Q := by
  obtain ⟨-, -, hn⟩ := id hT
  refine Ok.enter (F := F_344) (ls := [.ref 318, .int x, lDead, lDead, lDead, lDead, lDead]) rfl rfl ?_
  refine wp_aload0 (pc' := 1) rfl rfl ?_
  refine wp_iconst (v := nI 0) (pc' := 2) rfl rfl rfl ?_
  refine wp_putI (pc' := 5) rfl rfl (by first | exact TK.k1 hT rfl | exact TK.kk hT rfl | exact TK.r hT rfl | assumption) (by omega) rfl ?_
  refine wp_aload0 (pc' := 6) rfl rfl ?_
  refine wp_iload1 (pc' := 7) rfl rfl ?_
  refine wp_iconst (v := (-1)) (pc' := 8) rfl rfl rfl ?_
  refine wp_icmpeqF (pc' := 11) rfl hx1 rfl ?_
  refine wp_aload0 (pc' := 12) rfl rfl ?_
  refine wp_iload1 (pc' := 13) rfl rfl ?_
  refine wp_callV2 (pc' := 16) rfl rfl rfl rfl rfl (by first | exact TK.k1 hT rfl | exact TK.kk hT rfl | exact TK.r hT rfl | assumption) rfl rfl ?_
  refine m_noH0 hT (by rw [up2_row (by decide)]; exact hw) hH6 hx ?_
  refine Cont.v ?_
  refine wp_ifeqF (pc' := 19) rfl (by decide) rfl ?_
  refine wp_iconst (v := nI 1) (pc' := 20) rfl rfl rfl ?_
  refine wp_goto rfl ?_
  refine wp_iconst (v := nI 1) (pc' := 25) rfl rfl rfl ?_
  refine wp_callV3 (pc' := 28) rfl rfl rfl rfl rfl (by first | exact TK.k1 hT rfl | exact TK.kk hT rfl | exact TK.r hT rfl | assumption) rfl rfl ?_
  refine m_tfY hT ?_
  refine Cont.v ?_
  refine wp_ifeqF (pc' := 31) rfl (by decide) rfl ?_
  refine wp_iconst (v := nI 0) (pc' := 32) rfl rfl rfl ?_
  refine wp_iret rfl rfl rfl ?_
  rw [up318]
  exact kk
