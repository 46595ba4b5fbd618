/-! THE REFERENCE: the tape is read -/
theorem up2_id {f : Mem} {a k : Nat} : up2 f a k (f a k) = f := by
  funext i j; unfold up2
  by_cases h : i = a ∧ j = k
  · rw [if_pos h, h.1, h.2]
  · rw [if_neg h]
abbrev atP (t : Nat → Int32) (lo hi : Int32) (e p : Nat) : Prop := p < e ∧ ¬ t p < lo ∧ ¬ hi < t p
def runP (q : Nat → Prop) [∀ p, Decidable (q p)] : Nat → Nat → Nat
  | 0, p => p
  | r + 1, p => if q p then runP q r (p + 1) else p
def bkP (t : Nat → Int32) (e p : Nat) : Nat := runP (fun p => atP t (nI 32) (nI 32) e p) (e - p) p
theorem bkP_s {t : Nat → Int32} {e p : Nat} (h : atP t (nI 32) (nI 32) e p) : bkP t e p = bkP t e (p + 1) := by
  unfold bkP
  rw [show e - p = (e - (p + 1)) + 1 by have := h.1; omega, runP, if_pos h]
theorem bkP_n {t : Nat → Int32} {e p : Nat} (h : ¬ atP t (nI 32) (nI 32) e p) : bkP t e p = p := by
  unfold bkP
  cases e - p with
  | zero => rfl
  | succ r => rw [runP, if_neg h]

theorem m_isAt {d : Nat} {K : Nat → Nat × Nat} {I : Nat → Nat → Int32} {L : Nat → Nat → Int64} {R : Nat → Nat → Option Nat} {n s : Nat} {Q : Lo → Lm → Prop} {xl xh : Int32} {e p : Nat} (hT : TK K R n) (hp : I 318 10 = nI p) (he : I 318 11 = nI e) (hp4 : p ≤ 400) (he4 : e ≤ 400) (kk : Q (.inl (some (.int (if atP (I 324) xl xh e p then nI 1 else nI 0)))) (K, I, L, R, n, s)) : Ok (d + 1) 223 [.ref 318, .int xl, .int xh] (K, I, L, R, n, s) Q := by
  obtain ⟨-, -, hn⟩ := id hT
  refine Ok.enter (F := F_223) (ls := [.ref 318, .int xl, .int xh]) rfl rfl ?_
  refine wp_aload0 (pc' := 1) rfl rfl ?_
  refine wp_getI (pc' := 4) rfl rfl (by first | exact TK.k1 hT rfl | exact TK.kk hT rfl | exact TK.r hT rfl | assumption) rfl ?_
  rw [hp]
  refine wp_aload0 (pc' := 5) rfl rfl ?_
  refine wp_getI (pc' := 8) rfl rfl (by first | exact TK.k1 hT rfl | exact TK.kk hT rfl | exact TK.r hT rfl | assumption) rfl ?_
  rw [he]
  refine wp_icmpge (pc' := 11) rfl rfl ?_ ?_
  · intro h8
    refine wp_iconst (v := nI 0) (pc' := 42) rfl rfl rfl ?_
    refine wp_iret rfl rfl (by first | rfl | exact nar_if) ?_
    first | exact Qv kk (by rw [if_pos (show atP (I 324) xl xh e p from And.intro hpe (And.intro h21 h34))]) rfl | exact Qv kk (by rw [if_neg (show ¬ atP (I 324) xl xh e p from fun q => q.2.2 h34)]) rfl | exact Qv kk (by rw [if_neg (show ¬ atP (I 324) xl xh e p from fun q => q.2.1 h21)]) rfl | exact Qv kk (by rw [if_neg (show ¬ atP (I 324) xl xh e p from fun q => h8 (nI_lt q.1 (by omega)))]) rfl
  · intro h8
    refine wp_aload0 (pc' := 12) rfl rfl ?_
    refine wp_getRF (pc' := 15) rfl rfl (by first | exact TK.k1 hT rfl | exact TK.kk hT rfl | exact TK.r hT rfl | assumption) (by first | exact TK.k1 hT rfl | exact TK.kk hT rfl | exact TK.r hT rfl | assumption) rfl ?_
    refine wp_aload0 (pc' := 16) rfl rfl ?_
    refine wp_getI (pc' := 19) rfl rfl (by first | exact TK.k1 hT rfl | exact TK.kk hT rfl | exact TK.r hT rfl | assumption) rfl ?_
    rw [hp]
    have hpe := nI_lt_inv (by omega) (by omega) h8
    first | refine wp_bald _ (pc' := 20) rfl (by first | exact TK.k1 hT rfl | exact TK.kk hT rfl | exact TK.r hT rfl | assumption) (by with_reducible rfl) (by omega) (by first | decide | assumption | omega) rfl ?_ | refine wp_zald _ (pc' := 20) rfl (by first | exact TK.k1 hT rfl | exact TK.kk hT rfl | exact TK.r hT rfl | assumption) (by with_reducible rfl) (by omega) (by first | decide | assumption | omega) rfl ?_
    refine wp_iload1 (pc' := 21) rfl rfl ?_
    refine wp_icmplt (pc' := 24) rfl rfl ?_ ?_
    · intro h21
      refine wp_iconst (v := nI 0) (pc' := 42) rfl rfl rfl ?_
      refine wp_iret rfl rfl (by first | rfl | exact nar_if) ?_
      first | exact Qv kk (by rw [if_pos (show atP (I 324) xl xh e p from And.intro hpe (And.intro h21 h34))]) rfl | exact Qv kk (by rw [if_neg (show ¬ atP (I 324) xl xh e p from fun q => q.2.2 h34)]) rfl | exact Qv kk (by rw [if_neg (show ¬ atP (I 324) xl xh e p from fun q => q.2.1 h21)]) rfl | exact Qv kk (by rw [if_neg (show ¬ atP (I 324) xl xh e p from fun q => h8 (nI_lt q.1 (by omega)))]) rfl
    · intro h21
      refine wp_aload0 (pc' := 25) rfl rfl ?_
      refine wp_getRF (pc' := 28) rfl rfl (by first | exact TK.k1 hT rfl | exact TK.kk hT rfl | exact TK.r hT rfl | assumption) (by first | exact TK.k1 hT rfl | exact TK.kk hT rfl | exact TK.r hT rfl | assumption) rfl ?_
      refine wp_aload0 (pc' := 29) rfl rfl ?_
      refine wp_getI (pc' := 32) rfl rfl (by first | exact TK.k1 hT rfl | exact TK.kk hT rfl | exact TK.r hT rfl | assumption) rfl ?_
      rw [hp]
      first | refine wp_bald _ (pc' := 33) rfl (by first | exact TK.k1 hT rfl | exact TK.kk hT rfl | exact TK.r hT rfl | assumption) (by with_reducible rfl) (by omega) (by first | decide | assumption | omega) rfl ?_ | refine wp_zald _ (pc' := 33) rfl (by first | exact TK.k1 hT rfl | exact TK.kk hT rfl | exact TK.r hT rfl | assumption) (by with_reducible rfl) (by omega) (by first | decide | assumption | omega) rfl ?_
      refine wp_iload2 (pc' := 34) rfl rfl ?_
      refine wp_icmpgt (pc' := 37) rfl rfl ?_ ?_
      · intro h34
        refine wp_iconst (v := nI 0) (pc' := 42) rfl rfl rfl ?_
        refine wp_iret rfl rfl (by first | rfl | exact nar_if) ?_
        first | exact Qv kk (by rw [if_pos (show atP (I 324) xl xh e p from And.intro hpe (And.intro h21 h34))]) rfl | exact Qv kk (by rw [if_neg (show ¬ atP (I 324) xl xh e p from fun q => q.2.2 h34)]) rfl | exact Qv kk (by rw [if_neg (show ¬ atP (I 324) xl xh e p from fun q => q.2.1 h21)]) rfl | exact Qv kk (by rw [if_neg (show ¬ atP (I 324) xl xh e p from fun q => h8 (nI_lt q.1 (by omega)))]) rfl
      · intro h34
        refine wp_iconst (v := nI 1) (pc' := 38) rfl rfl rfl ?_
        refine wp_goto rfl ?_
        refine wp_iret rfl rfl (by first | rfl | exact nar_if) ?_
        first | exact Qv kk (by rw [if_pos (show atP (I 324) xl xh e p from And.intro hpe (And.intro h21 h34))]) rfl | exact Qv kk (by rw [if_neg (show ¬ atP (I 324) xl xh e p from fun q => q.2.2 h34)]) rfl | exact Qv kk (by rw [if_neg (show ¬ atP (I 324) xl xh e p from fun q => q.2.1 h21)]) rfl | exact Qv kk (by rw [if_neg (show ¬ atP (I 324) xl xh e p from fun q => h8 (nI_lt q.1 (by omega)))]) rfl
theorem m_blanks {d : Nat} {K : Nat → Nat × Nat} {I : Nat → Nat → Int32} {L : Nat → Nat → Int64} {R : Nat → Nat → Option Nat} {n s : Nat} {Q : Lo → Lm → Prop} {e p : Nat} (hT : TK K R n) (hp : I 318 10 = nI p) (he : I 318 11 = nI e) (hp4 : p ≤ 400) (he4 : e ≤ 400) (kk : Q (.inl none) (K, up2 (up2 I 318 10 (nI (bkP (I 324) e p))) 318 12 (nI (bkP (I 324) e p)), L, R, n, s)) : Ok (d + 2) 222 [.ref 318] (K, I, L, R, n, s) Q := by
  obtain ⟨-, -, hn⟩ := id hT
  refine Ok.enter (F := F_222) (ls := [.ref 318]) rfl rfl ?_
  have lp0 : ∀ r (q : Nat), 401 ≤ q + r → q ≤ 400 → bkP (I 324) e q = bkP (I 324) e p → WP (d + 1) F_222 0 [.ref 318] [] (K, up2 I 318 10 (nI q), L, R, n, s) Q := by
    intro r; induction r with
    | zero =>
      intro q hi hv0 hv1
      exact absurd hi (by omega)
    | succ r ih =>
      intro q hi hv0 hv1
      refine wp_aload0 (pc' := 1) rfl rfl ?_
      refine wp_bipush (v := nI 32) (pc' := 3) rfl rfl rfl ?_
      refine wp_bipush (v := nI 32) (pc' := 5) rfl rfl rfl ?_
      refine wp_callV3 (pc' := 8) rfl rfl rfl rfl rfl (by first | exact TK.k1 hT rfl | exact TK.kk hT rfl | exact TK.r hT rfl | assumption) rfl rfl ?_
      refine m_isAt (e := e) (p := q) hT up2_hit (by rw [up2_same, if_neg (by decide)]; exact he) (by omega) he4 ?_
      rw [up2_row (show (324 : Nat) ≠ 318 by decide)]
      refine Cont.v ?_
      first | refine wp_ifeqB (pc' := 11) rfl rfl ?_ ?_ | refine wp_ifeq (pc' := 11) rfl rfl ?_ ?_
      · intro h8
        refine wp_aload0 (pc' := 25) rfl rfl ?_
        refine wp_aload0 (pc' := 26) rfl rfl ?_
        refine wp_getI (pc' := 29) rfl rfl (by first | exact TK.k1 hT rfl | exact TK.kk hT rfl | exact TK.r hT rfl | assumption) rfl ?_
        rw [up2_hit]
        refine wp_putI (pc' := 32) rfl rfl (by first | exact TK.k1 hT rfl | exact TK.kk hT rfl | exact TK.r hT rfl | assumption) (by omega) rfl ?_
        refine wp_vret rfl rfl ?_
        refine Qu kk ?_
        rw [← hv1, bkP_n h8]
      · intro h8
        refine wp_aload0 (pc' := 12) rfl rfl ?_
        refine wp_dup (pc' := 13) rfl rfl rfl ?_
        refine wp_getI (pc' := 16) rfl rfl (by first | exact TK.k1 hT rfl | exact TK.kk hT rfl | exact TK.r hT rfl | assumption) rfl ?_
        rw [up2_hit]
        refine wp_iconst (v := nI 1) (pc' := 17) rfl rfl rfl ?_
        first | refine wp_iaddN (pc' := 18) rfl (by with_reducible rfl) (by with_reducible rfl) rfl ?_ | refine wp_iadd (pc' := 18) rfl rfl ?_
        refine wp_putI (pc' := 21) rfl rfl (by first | exact TK.k1 hT rfl | exact TK.kk hT rfl | exact TK.r hT rfl | assumption) (by omega) rfl ?_
        refine wp_goto rfl ?_
        exact WP.cg (ih (q + 1) (by omega) (by have := h8.1; omega) ((bkP_s h8).symm.trans hv1)) (lC1 rfl) rfl (by rw [up2_up2])
  exact WP.cg (lp0 401 p (by omega) hp4 rfl) (lC1 rfl) rfl (by rw [← hp, up2_id])
theorem m_uses {d : Nat} {K : Nat → Nat × Nat} {I : Nat → Nat → Int32} {L : Nat → Nat → Int64} {R : Nat → Nat → Option Nat} {n s : Nat} {Q : Lo → Lm → Prop}  (hT : TK K R n) (kk : Q (.inl none) (K, up2 (up2 (up2 (up2 I 318 0 (nI 0)) 318 11 ((up2 I 318 0 (nI 0)) 318 9)) 318 9 (nI 0)) 318 10 (nI 0), L, R, n, s)) : Ok (d + 1) 221 [.ref 318] (K, I, L, R, n, s) Q := by
  obtain ⟨-, -, hn⟩ := id hT
  refine Ok.enter (F := F_221) (ls := [.ref 318]) rfl rfl ?_
  refine wp_aload0 (pc' := 1) rfl rfl ?_
  refine wp_iconst (v := nI 0) (pc' := 2) rfl rfl rfl ?_
  refine wp_putI (pc' := 5) rfl rfl (by first | exact TK.k1 hT rfl | exact TK.kk hT rfl | exact TK.r hT rfl | assumption) (by omega) rfl ?_
  refine wp_aload0 (pc' := 6) rfl rfl ?_
  refine wp_aload0 (pc' := 7) rfl rfl ?_
  refine wp_getI (pc' := 10) rfl rfl (by first | exact TK.k1 hT rfl | exact TK.kk hT rfl | exact TK.r hT rfl | assumption) rfl ?_
  refine wp_putI (pc' := 13) rfl rfl (by first | exact TK.k1 hT rfl | exact TK.kk hT rfl | exact TK.r hT rfl | assumption) (by omega) rfl ?_
  refine wp_aload0 (pc' := 14) rfl rfl ?_
  refine wp_iconst (v := nI 0) (pc' := 15) rfl rfl rfl ?_
  refine wp_putI (pc' := 18) rfl rfl (by first | exact TK.k1 hT rfl | exact TK.kk hT rfl | exact TK.r hT rfl | assumption) (by omega) rfl ?_
  refine wp_aload0 (pc' := 19) rfl rfl ?_
  refine wp_iconst (v := nI 0) (pc' := 20) rfl rfl rfl ?_
  refine wp_putI (pc' := 23) rfl rfl (by first | exact TK.k1 hT rfl | exact TK.kk hT rfl | exact TK.r hT rfl | assumption) (by omega) rfl ?_
  refine wp_vret rfl rfl ?_
  exact kk
def ltP (t : Nat → Int32) (e p : Nat) : Nat := runP (fun p => atP t (nI 97) (nI 122) e p) (e - p) p
theorem ltP_s {t : Nat → Int32} {e p : Nat} (h : atP t (nI 97) (nI 122) e p) : ltP t e p = ltP t e (p + 1) := by
  unfold ltP
  rw [show e - p = (e - (p + 1)) + 1 by have := h.1; omega, runP, if_pos h]
theorem ltP_n {t : Nat → Int32} {e p : Nat} (h : ¬ atP t (nI 97) (nI 122) e p) : ltP t e p = p := by
  unfold ltP
  cases e - p with
  | zero => rfl
  | succ r => rw [runP, if_neg h]
theorem runP_le {q : Nat → Prop} [∀ p, Decidable (q p)] {m : Nat} (hq : ∀ p, q p → p + 1 ≤ m) : ∀ r p, p ≤ m → runP q r p ≤ m
  | 0, _, h => h
  | r + 1, p, h => by
    rw [runP]
    split
    · rename_i hp; exact runP_le hq r (p + 1) (hq p hp)
    · exact h
theorem bkP_le {t : Nat → Int32} {e p : Nat} (he : e ≤ 400) (hp : p ≤ 400) : bkP t e p ≤ 400 := runP_le (m := 400) (fun p h => by have := h.1; omega) _ _ hp
theorem ltP_le {t : Nat → Int32} {e p : Nat} (he : e ≤ 400) (hp : p ≤ 400) : ltP t e p ≤ 400 := runP_le (m := 400) (fun p h => by have := h.1; omega) _ _ hp

theorem m_letters {d : Nat} {K : Nat → Nat × Nat} {I : Nat → Nat → Int32} {L : Nat → Nat → Int64} {R : Nat → Nat → Option Nat} {n s : Nat} {Q : Lo → Lm → Prop} {e p : Nat} (hT : TK K R n) (hp : I 318 10 = nI p) (he : I 318 11 = nI e) (hp4 : p ≤ 400) (he4 : e ≤ 400) (kk : Q (.inl none) (K, up2 (up2 (up2 I 318 10 (nI (bkP (I 324) e p))) 318 12 (nI (bkP (I 324) e p))) 318 10 (nI (ltP (I 324) e (bkP (I 324) e p))), L, R, n, s)) : Ok (d + 3) 225 [.ref 318] (K, I, L, R, n, s) Q := by
  obtain ⟨-, -, hn⟩ := id hT
  refine Ok.enter (F := F_225) (ls := [.ref 318]) rfl rfl ?_
  refine wp_aload0 (pc' := 1) rfl rfl ?_
  refine wp_callV1 (pc' := 4) rfl rfl rfl rfl rfl (by first | exact TK.k1 hT rfl | exact TK.kk hT rfl | exact TK.r hT rfl | assumption) rfl rfl ?_
  refine m_blanks hT hp he hp4 he4 ?_
  obtain ⟨N, hN⟩ : ∃ N, N = up2 (up2 I 318 10 (nI (bkP (I 324) e p))) 318 12 (nI (bkP (I 324) e p)) := ⟨_, rfl⟩
  have hN0 : N 318 10 = nI (bkP (I 324) e p) := by rw [hN, up2_same, if_neg (by decide), up2_hit]
  have hN1 : N 318 11 = nI e := by rw [hN, up2_same, if_neg (by decide), up2_same, if_neg (by decide)]; exact he
  have hN4 : N 324 = I 324 := by rw [hN, up2_row (by decide), up2_row (by decide)]
  rw [← hN]
  refine Cont.u ?_
  have lp4 : ∀ r (q : Nat), 401 ≤ q + r → q ≤ 400 → ltP (I 324) e q = ltP (I 324) e (bkP (I 324) e p) → WP (d + 2) F_225 4 [.ref 318] [] (K, up2 N 318 10 (nI q), L, R, n, s) Q := by
    intro r; induction r with
    | zero =>
      intro q hi hv0 hv1
      exact absurd hi (by omega)
    | succ r ih =>
      intro q hi hv0 hv1
      refine wp_aload0 (pc' := 5) rfl rfl ?_
      refine wp_bipush (v := nI 97) (pc' := 7) rfl rfl rfl ?_
      refine wp_bipush (v := nI 122) (pc' := 9) rfl rfl rfl ?_
      refine wp_callV3 (pc' := 12) rfl rfl rfl rfl rfl (by first | exact TK.k1 hT rfl | exact TK.kk hT rfl | exact TK.r hT rfl | assumption) rfl rfl ?_
      refine m_isAt (e := e) (p := q) hT up2_hit (by rw [up2_same, if_neg (by decide)]; exact hN1) (by omega) he4 ?_
      rw [up2_row (show (324 : Nat) ≠ 318 by decide), hN4]
      refine Cont.v ?_
      first | refine wp_ifeqB (pc' := 15) rfl rfl ?_ ?_ | refine wp_ifeq (pc' := 15) rfl rfl ?_ ?_
      · intro h12
        refine wp_vret rfl rfl ?_
        refine Qu kk ?_
        rw [← hv1, ltP_n h12, hN]
      · intro h12
        refine wp_aload0 (pc' := 16) rfl rfl ?_
        refine wp_dup (pc' := 17) rfl rfl rfl ?_
        refine wp_getI (pc' := 20) rfl rfl (by first | exact TK.k1 hT rfl | exact TK.kk hT rfl | exact TK.r hT rfl | assumption) rfl ?_
        rw [up2_hit]
        refine wp_iconst (v := nI 1) (pc' := 21) rfl rfl rfl ?_
        first | refine wp_iaddN (pc' := 22) rfl (by with_reducible rfl) (by with_reducible rfl) rfl ?_ | refine wp_iadd (pc' := 22) rfl rfl ?_
        refine wp_putI (pc' := 25) rfl rfl (by first | exact TK.k1 hT rfl | exact TK.kk hT rfl | exact TK.r hT rfl | assumption) (by omega) rfl ?_
        refine wp_goto rfl ?_
        exact WP.cg (ih (q + 1) (by omega) (by have := h12.1; omega) ((ltP_s h12).symm.trans hv1)) (lC1 rfl) rfl (by rw [up2_up2])
  exact WP.cg (lp4 401 (bkP (I 324) e p) (by omega) (bkP_le he4 hp4) rfl) (lC1 rfl) rfl (by rw [← hN0, up2_id])
