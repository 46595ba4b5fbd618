/-! THE REFERENCE: law -/
/-- a law as it lies in the world -/
def LawW (w : Nat → Int32) (C : Mem) (c : Nat) (st : Sz) : Prop := w 483 = nI c ∧ (∀ l, l < c → w (484 + 4 * l) = C 42 l ∧ w (484 + 4 * l + 1) = C 43 l ∧ w (484 + 4 * l + 2) = C 44 l ∧ w (484 + 4 * l + 3) = C 44 (l + 1)) ∧ ∀ t, t < st.2 → w (532 + 2 * t) = tk1 (st.1 t) ∧ w (532 + 2 * t + 1) = tk2 (st.1 t)
def LgY (rq : Rw) (c : Nat) (I J : Mem) : Prop := (∀ a, a ≠ 318 → a ≠ 319 → J a = I a) ∧ J 318 6 = I 318 6 ∧ J 318 7 = nI 0 ∧ J 318 0 = nI 0 ∧ J 318 9 = nI 0 ∧ J 318 14 = -1 ∧ (∀ j, j < 483 → j ≠ 2 → J 319 j = I 319 j) ∧ J 319 2 = nI 1 ∧ LawW (J 319) rq.2.1 c rq.2.2.1
def shf (i : Nat) (w : Nat → Int32) : Nat → Int32 := fun j => if 483 ≤ j ∧ j < 483 + i then w (j + 849) else w j
theorem shf_0 {w : Nat → Int32} : shf 0 w = w := by
  funext j; unfold shf; rw [if_neg (by omega)]
theorem shf_s {i : Nat} {w : Nat → Int32} (h : i < 849) : up1 (shf i w) (483 + i) (shf i w (1332 + i)) = shf (i + 1) w := by
  funext j
  by_cases e : j = 483 + i
  · subst e
    rw [up1_hit]; unfold shf
    rw [if_neg (by omega), if_pos (by omega)]
    congr 1; omega
  · rw [up1_ne e]; unfold shf
    by_cases e2 : 483 ≤ j ∧ j < 483 + i
    · rw [if_pos e2, if_pos (by omega)]
    · rw [if_neg e2, if_neg (by omega)]
theorem shf_e {w : Nat → Int32} {k : Nat} (h : k < 849) : shf 849 w (483 + k) = w (1332 + k) := by
  unfold shf; rw [if_pos (by omega)]; congr 1; omega
theorem shf_lo {w : Nat → Int32} {j : Nat} (h : j < 483) : shf 849 w j = w j := by
  unfold shf; rw [if_neg (by omega)]
theorem law_w {w w2 : Nat → Int32} {C : Mem} {c : Nat} {st : Sz} (hc : c ≤ 12) (hz : st.2 ≤ 400) (hL : LdI w C c) (hD : DrS w st) (h : ∀ k, k < 849 → w2 (483 + k) = if k = 0 then nI c else w (1332 + k)) : LawW w2 C c st := by
  have g : ∀ a b, a = 483 + b → 0 < b → b < 849 → w2 a = w (1332 + b) := fun a b e h0 h1 => by rw [e, h b h1, if_neg (by omega)]
  refine ⟨(h 0 (by decide)).trans (if_pos rfl), fun l hl => ?_, fun t ht => ?_⟩
  · have := hL l hl
    rw [g (484 + 4 * l) (4 * l + 1) (by omega) (by omega) (by omega), g (484 + 4 * l + 1) (4 * l + 2) (by omega) (by omega) (by omega), g (484 + 4 * l + 2) (4 * l + 3) (by omega) (by omega) (by omega), g (484 + 4 * l + 3) (4 * l + 4) (by omega) (by omega) (by omega)]
    rw [show 1332 + (4 * l + 1) = 1333 + 4 * l by omega, show 1332 + (4 * l + 2) = 1333 + 4 * l + 1 by omega, show 1332 + (4 * l + 3) = 1333 + 4 * l + 2 by omega, show 1332 + (4 * l + 4) = 1333 + 4 * l + 3 by omega]
    exact this
  · have := hD t ht
    rw [g (532 + 2 * t) (2 * t + 49) (by omega) (by omega) (by omega), g (532 + 2 * t + 1) (2 * t + 50) (by omega) (by omega) (by omega)]
    rw [show 1332 + (2 * t + 49) = 1381 + 2 * t by omega, show 1332 + (2 * t + 50) = 1381 + 2 * t + 1 by omega]
    exact this

theorem m_lawE {d : Nat} {K : Nat → Nat × Nat} {I : Nat → Nat → Int32} {L : Nat → Nat → Int64} {R : Nat → Nat → Option Nat} {n s : Nat} {Q : Lo → Lm → Prop} {T : Nat} {C : Mem} {tv : Nat → Nat} {rq : Rw} (hT : TK K R n) (h9 : I 318 9 = nI T) (hT4 : T ≤ 400) (htp : TpW (I 324) tv) (hS : SS K I R) (hC0 : C 44 0 = nI 0) (hrq : lawA tv T C (skp tv T 0) = rq) (hrf : rq.1 = false) (kk : ∀ J, BgE 1 (nI rq.2.2.2) I J → Q (.inl (some (.int (nI 0)))) (K, J, L, R, n, s)) : Ok (d + 31) 254 [.ref 318] (K, I, L, R, n, s) Q := by
  obtain ⟨-, -, hn⟩ := id hT
  refine Ok.enter (F := F_254) (ls := [.ref 318, lDead, lDead]) rfl rfl ?_
  refine wp_aload0 (pc' := 1) rfl rfl ?_
  refine wp_iconst (v := nI 0) (pc' := 2) rfl rfl rfl ?_
  refine wp_callV2 (pc' := 5) rfl rfl rfl rfl rfl (by first | exact TK.k1 hT rfl | exact TK.kk hT rfl | exact TK.r hT rfl | assumption) rfl rfl ?_
  refine m_allL (rq := rq) (C := C) hT h9 hT4 htp hS hC0 hrq (fun x J hJ => ?_)
  obtain ⟨rfl, hb12⟩ := hJ.2.2.2.2.2.2 hrf
  refine Cont.v ?_
  refine wp_istore1 (pc' := 6) rfl (by first | rfl | assumption) rfl ?_
  refine wp_aload0 (pc' := 7) rfl rfl ?_
  refine wp_iload1 (pc' := 8) rfl rfl ?_
  refine wp_ifgeF (pc' := 11) rfl (by decide) rfl ?_
  refine wp_aload0 (pc' := 12) rfl rfl ?_
  refine wp_getI (pc' := 15) rfl rfl (by first | exact TK.k1 hT rfl | exact TK.kk hT rfl | exact TK.r hT rfl | assumption) rfl ?_
  rw [hb12]
  refine wp_goto rfl ?_
  refine wp_putI (pc' := 22) rfl rfl (by first | exact TK.k1 hT rfl | exact TK.kk hT rfl | exact TK.r hT rfl | assumption) (by omega) rfl ?_
  refine wp_aload0 (pc' := 23) rfl rfl ?_
  refine wp_iload1 (pc' := 24) rfl rfl ?_
  refine wp_ifgeF (pc' := 27) rfl (by decide) rfl ?_
  refine wp_iconst (v := nI 1) (pc' := 28) rfl rfl rfl ?_
  refine wp_goto rfl ?_
  refine wp_iconst (v := nI 1) (pc' := 33) rfl rfl rfl ?_
  refine wp_callV3 (pc' := 36) rfl rfl rfl rfl rfl (by first | exact TK.k1 hT rfl | exact TK.kk hT rfl | exact TK.r hT rfl | assumption) rfl rfl ?_
  refine m_tfY hT ?_
  refine Cont.v ?_
  refine wp_ifeqF (pc' := 39) rfl (by decide) rfl ?_
  refine wp_iconst (v := nI 0) (pc' := 40) rfl rfl rfl ?_
  refine wp_iret rfl rfl rfl ?_
  exact kk _ ⟨fun a a1 a2 _ => by rw [up2_row a1, up2_row a1]; exact hJ.1 a a1 a2, fun j hj => by rw [up2_same, if_neg (by omega), up2_same, if_neg (by omega)]; exact hJ.2.1 j hj, up2_hit, by rw [up2_same, if_neg (by decide), up2_same, if_neg (by decide)]; exact hJ.2.2.2.1, by rw [up2_same, if_neg (by decide), up2_hit], fun j hj => by rw [up2_row (by decide), up2_row (by decide)]; exact hJ.2.2.2.2.1 j hj⟩
theorem m_lawY {d : Nat} {K : Nat → Nat × Nat} {I : Nat → Nat → Int32} {L : Nat → Nat → Int64} {R : Nat → Nat → Option Nat} {n s : Nat} {Q : Lo → Lm → Prop} {T : Nat} {C : Mem} {tv : Nat → Nat} {rq : Rw} (hT : TK K R n) (h9 : I 318 9 = nI T) (hT4 : T ≤ 400) (htp : TpW (I 324) tv) (hS : SS K I R) (hC0 : C 44 0 = nI 0) (hrq : lawA tv T C (skp tv T 0) = rq) (hrt : rq.1 = true) (kk : ∀ c J, c ≤ 12 → rq.2.1 41 5 = nI c → LgY rq c I J → Q (.inl (some (.int (nI c)))) (K, J, L, R, n, s)) : Ok (d + 31) 254 [.ref 318] (K, I, L, R, n, s) Q := by
  obtain ⟨-, -, hn⟩ := id hT
  refine Ok.enter (F := F_254) (ls := [.ref 318, lDead, lDead]) rfl rfl ?_
  refine wp_aload0 (pc' := 1) rfl rfl ?_
  refine wp_iconst (v := nI 0) (pc' := 2) rfl rfl rfl ?_
  refine wp_callV2 (pc' := 5) rfl rfl rfl rfl rfl (by first | exact TK.k1 hT rfl | exact TK.kk hT rfl | exact TK.r hT rfl | assumption) rfl rfl ?_
  refine m_allL (rq := rq) (C := C) hT h9 hT4 htp hS hC0 hrq (fun x J hJ => ?_)
  obtain ⟨c, hc, rfl, hc5, hL, hD, hz⟩ := hJ.2.2.2.2.2.1 hrt
  refine Cont.v ?_
  refine wp_istore1 (pc' := 6) rfl (by first | rfl | assumption) rfl ?_
  refine wp_aload0 (pc' := 7) rfl rfl ?_
  refine wp_iload1 (pc' := 8) rfl rfl ?_
  refine wp_ifgeT rfl (nI_pos (by omega)) ?_
  refine wp_iconst (v := (-1)) (pc' := 19) rfl rfl rfl ?_
  refine wp_putI (pc' := 22) rfl rfl (by first | exact TK.k1 hT rfl | exact TK.kk hT rfl | exact TK.r hT rfl | assumption) (by omega) rfl ?_
  refine wp_aload0 (pc' := 23) rfl rfl ?_
  refine wp_iload1 (pc' := 24) rfl rfl ?_
  refine wp_ifgeT rfl (nI_pos (by omega)) ?_
  refine wp_iconst (v := nI 0) (pc' := 32) rfl rfl rfl ?_
  refine wp_iconst (v := nI 1) (pc' := 33) rfl rfl rfl ?_
  refine wp_callV3 (pc' := 36) rfl rfl rfl rfl rfl (by first | exact TK.k1 hT rfl | exact TK.kk hT rfl | exact TK.r hT rfl | assumption) rfl rfl ?_
  refine m_tfN hT ?_
  refine Cont.v ?_
  refine wp_ifeqT rfl rfl ?_
  refine wp_aload0 (pc' := 42) rfl rfl ?_
  refine wp_getRF (pc' := 45) rfl rfl (by first | exact TK.k1 hT rfl | exact TK.kk hT rfl | exact TK.r hT rfl | assumption) (by first | exact TK.k1 hT rfl | exact TK.kk hT rfl | exact TK.r hT rfl | assumption) rfl ?_
  refine wp_sipush (v := nI 1332) (pc' := 48) rfl rfl rfl ?_
  refine wp_iload1 (pc' := 49) rfl rfl ?_
  refine wp_iast _ (pc' := 50) rfl (by first | exact TK.k1 hT rfl | exact TK.kk hT rfl | exact TK.r hT rfl | assumption) (by omega) (by with_reducible rfl) (by omega) (by first | decide | assumption | omega) rfl ?_
  obtain ⟨G, hG⟩ : ∃ G, G = up2 (up2 J 318 14 (-1)) 319 1332 (nI c) := ⟨_, rfl⟩
  rw [← hG]
  refine wp_iconst (v := nI 0) (pc' := 51) rfl rfl rfl ?_
  refine wp_istore2 (pc' := 52) rfl (by first | rfl | assumption) rfl ?_
  have lp52 : ∀ r (i : Nat), i + r = 849 → WP (d + 30) F_254 52 [.ref 318, .int (nI c), .int (nI i)] [] (K, upr G 319 (shf i (G 319)), L, R, n, s) Q := by
    intro r; induction r with
    | zero =>
      intro i hi 
      have hi2 : i = 849 := by omega
      subst hi2
      refine wp_iload2 (pc' := 53) rfl rfl ?_
      refine wp_sipush (v := nI 849) (pc' := 56) rfl rfl rfl ?_
      refine wp_icmpgeT rfl (nI_nlt (by omega) (by omega)) ?_
      refine wp_aload0 (pc' := 86) rfl rfl ?_
      refine wp_getRF (pc' := 89) rfl rfl (by first | exact TK.k1 hT rfl | exact TK.kk hT rfl | exact TK.r hT rfl | assumption) (by first | exact TK.k1 hT rfl | exact TK.kk hT rfl | exact TK.r hT rfl | assumption) rfl ?_
      refine wp_iconst (v := nI 2) (pc' := 90) rfl rfl rfl ?_
      refine wp_iconst (v := nI 1) (pc' := 91) rfl rfl rfl ?_
      refine wp_iast _ (pc' := 92) rfl (by first | exact TK.k1 hT rfl | exact TK.kk hT rfl | exact TK.r hT rfl | assumption) (by omega) (by with_reducible rfl) (by omega) (by first | decide | assumption | omega) rfl ?_
      refine wp_aload0 (pc' := 93) rfl rfl ?_
      refine wp_iconst (v := nI 0) (pc' := 94) rfl rfl rfl ?_
      refine wp_putI (pc' := 97) rfl rfl (by first | exact TK.k1 hT rfl | exact TK.kk hT rfl | exact TK.r hT rfl | assumption) (by omega) rfl ?_
      refine wp_iload1 (pc' := 98) rfl rfl ?_
      refine wp_iret rfl rfl rfl ?_
      have hG9 : ∀ j, G 319 j = if j = 1332 then nI c else J 319 j := fun j => by rw [hG, up2_same, up2_row (by decide)]
      have hG8 : ∀ j, G 318 j = if j = 14 then -1 else J 318 j := fun j => by rw [hG, up2_row (by decide), up2_same]
      refine kk c _ hc hc5 ⟨fun a a1 a2 => ?_, ?_, up2_hit, ?_, ?_, ?_, fun j j1 j2 => ?_, ?_, law_w hc hz hL hD (fun k hk => ?_)⟩
      · rw [up2_row a1, up2_row a2, upr_ne a2, hG, up2_row a2, up2_row a1]; exact hJ.1 a a1 a2
      · rw [up2_same, if_neg (by decide), up2_row (by decide), upr_ne (by decide), hG8, if_neg (by decide)]; exact hJ.2.1 6 (by decide)
      · rw [up2_same, if_neg (by decide), up2_row (by decide), upr_ne (by decide), hG8, if_neg (by decide)]; exact hJ.2.2.1
      · rw [up2_same, if_neg (by decide), up2_row (by decide), upr_ne (by decide), hG8, if_neg (by decide)]; exact hJ.2.2.2.1
      · rw [up2_same, if_neg (by decide), up2_row (by decide), upr_ne (by decide), hG8, if_pos rfl]
      · rw [up2_row (by decide), up2_same, if_neg j2, upr_same, shf_lo j1, hG9, if_neg (by omega)]; exact hJ.2.2.2.2.1 j (by omega)
      · rw [up2_row (by decide), up2_hit]
      · rw [up2_row (by decide), up2_same, if_neg (by omega), upr_same, shf_e hk, hG9]
        by_cases e : k = 0
        · rw [if_pos (by omega), if_pos e]
        · rw [if_neg (by omega), if_neg e]
    | succ r ih =>
      intro i hi 
      have hlt : i < 849 := by omega
      refine wp_iload2 (pc' := 53) rfl rfl ?_
      refine wp_sipush (v := nI 849) (pc' := 56) rfl rfl rfl ?_
      refine wp_icmpgeF (pc' := 59) rfl (nI_lt (by omega) (by omega)) rfl ?_
      refine wp_aload0 (pc' := 60) rfl rfl ?_
      refine wp_getRF (pc' := 63) rfl rfl (by first | exact TK.k1 hT rfl | exact TK.kk hT rfl | exact TK.r hT rfl | assumption) (by first | exact TK.k1 hT rfl | exact TK.kk hT rfl | exact TK.r hT rfl | assumption) rfl ?_
      refine wp_sipush (v := nI 483) (pc' := 66) rfl rfl rfl ?_
      refine wp_iload2 (pc' := 67) rfl rfl ?_
      first | refine wp_iaddN (pc' := 68) rfl (by with_reducible rfl) (by with_reducible rfl) rfl ?_ | refine wp_iadd (pc' := 68) rfl rfl ?_
      refine wp_aload0 (pc' := 69) rfl rfl ?_
      refine wp_getRF (pc' := 72) rfl rfl (by first | exact TK.k1 hT rfl | exact TK.kk hT rfl | exact TK.r hT rfl | assumption) (by first | exact TK.k1 hT rfl | exact TK.kk hT rfl | exact TK.r hT rfl | assumption) rfl ?_
      refine wp_sipush (v := nI 1332) (pc' := 75) rfl rfl rfl ?_
      refine wp_iload2 (pc' := 76) rfl rfl ?_
      first | refine wp_iaddN (pc' := 77) rfl (by with_reducible rfl) (by with_reducible rfl) rfl ?_ | refine wp_iadd (pc' := 77) rfl rfl ?_
      refine wp_iald _ (pc' := 78) rfl (by first | exact TK.k1 hT rfl | exact TK.kk hT rfl | exact TK.r hT rfl | assumption) (by with_reducible rfl) (by omega) (by first | decide | assumption | omega) rfl ?_
      refine wp_iast _ (pc' := 79) rfl (by first | exact TK.k1 hT rfl | exact TK.kk hT rfl | exact TK.r hT rfl | assumption) (by omega) (by with_reducible rfl) (by omega) (by first | decide | assumption | omega) rfl ?_
      first | refine wp_iinc2 (w := nI 1) (pc' := 82) rfl rfl rfl (by with_reducible exact nI_add _ _) rfl ?_ | refine wp_iinc2 (w := nI 1) (pc' := 82) rfl rfl rfl rfl rfl ?_
      refine wp_goto rfl ?_
      exact WP.cg (ih (i + 1) (by omega)) (lC1 (lI1 (by rfl) (lI1 (by rfl) rfl))) rfl (by rw [up2_upr, upr_same]; exact congrArg (fun r => (K, upr G 319 r, L, R, n, s)) (shf_s hlt))
  exact WP.cg (lp52 (849 - (0)) (0) (by omega)) (lC1 (lI1 (by rfl) (lI1 (by rfl) rfl))) rfl (by rw [shf_0, upr_id])
