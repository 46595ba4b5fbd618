/-! A law's text in the reference: atoms, whole -/
theorem lf_dp {I : Mem} {v : Int32} : LfJ I (up2 I 318 13 v) := ⟨fun a h1 _ => up2_row h1, fun j _ => by rw [up2_row (by decide)], fun j _ _ h3 _ => by rw [up2_same, if_neg h3]⟩
theorem lw_dp {I : Mem} {st : Sz} {dp e : Nat} (h : LwS I st dp) : LwS (up2 I 318 13 (nI e)) st e := ⟨by rw [up2_row (by decide)]; exact h.1, by rw [up2_same, if_neg (by decide)]; exact h.2.1, up2_hit⟩
theorem pt_dp {I : Mem} {p : Nat} {v : Int32} (h : I 318 10 = nI p) : up2 I 318 13 v 318 10 = nI p := by rw [up2_same, if_neg (by decide)]; exact h
theorem ato_p {tv : Nat → Nat} {T q e : Nat} {st : Sz} (h : sgn tv T q 40) : atoF tv T (e + 1) st q = clsF tv T (anyF tv T (atoF tv T e) st (skp tv T (q + 1))) := by
  rw [atoF]; dsimp only; rw [if_neg (not_sg h (by decide)), if_pos h]
theorem ato_n {tv : Nat → Nat} {T q e : Nat} {st : Sz} (h : wdB tv T q kNot = true) : atoF tv T (e + 1) st q = notF (atoF tv T e st (af tv T q)) := by
  rw [atoF]; dsimp only; rw [if_pos h]
theorem ato_b {tv : Nat → Nat} {T q e : Nat} {st : Sz} (h : ¬ sgn tv T q 40) (h2 : ¬ wdB tv T q kNot = true) : atoF tv T (e + 1) st q = basF tv T st q := by
  rw [atoF]; dsimp only; rw [if_neg h2, if_neg h]
theorem cls_t {tv : Nat → Nat} {T : Nat} {r : Re} (h : r.1 = true) (h2 : sgn tv T r.2.2 41) : clsF tv T r = (true, r.2.1, skp tv T (r.2.2 + 1)) := by unfold clsF; rw [if_pos ⟨h, h2⟩]
theorem cls_f {tv : Nat → Nat} {T : Nat} {r : Re} (h : ¬ (r.1 = true ∧ sgn tv T r.2.2 41)) : clsF tv T r = (false, r.2.1, r.2.2) := by unfold clsF; rw [if_neg h]
theorem not_t {r : Re} (h : r.1 = true) : notF r = (true, putS r.2.1 (nI 1010), r.2.2) := by unfold notF; rw [if_pos h]
theorem not_f {r : Re} (h : ¬ r.1 = true) : notF r = (false, r.2.1, r.2.2) := by
  unfold notF; rw [if_neg h]
  obtain ⟨b, x, y⟩ := r
  cases b with
  | true => exact absurd rfl h
  | false => rfl
theorem re_no {b : Bool} (h : ¬ b = true) : b = false := by
  cases b with
  | true => exact absurd rfl h
  | false => rfl

theorem m_ato0 {K : Nat → Nat × Nat} {L : Nat → Nat → Int64} {R : Nat → Nat → Option Nat} {n s : Nat} {T : Nat} {tv : Nat → Nat} (hT : TK K R n) : RdX K L R n s T tv 246 6 7 (atoF tv T 0) := by
  intro d I st p Q hR hS hp h10 hlw hg kk
  obtain ⟨-, -, hn⟩ := id hT
  refine Ok.enter (F := F_246) (ls := [.ref 318, lDead]) rfl rfl ?_
  refine wp_aload0 (pc' := 1) rfl rfl ?_
  refine wp_bipush (v := nI 40) (pc' := 3) rfl rfl rfl ?_
  refine wp_callV2 (pc' := 6) rfl rfl rfl rfl rfl (by first | exact TK.k1 hT rfl | exact TK.kk hT rfl | exact TK.r hT rfl | assumption) rfl rfl ?_
  refine m_signJ (c := 40) hT hR hp h10 (by decide) (fun J1 hJ1 => ?_)
  obtain ⟨q, hq⟩ : ∃ q, skp tv T p = q := ⟨_, rfl⟩
  have hqT := (skp_ge (tv := tv) hp).2
  have hqq := skp_sk (tv := tv) hp
  have hlT := letN_le (tv := tv) (T := T) (p := q)
  rw [hq] at hJ1 hqT hqq hg kk ⊢
  refine Cont.v ?_
  first | refine wp_ifeqB (pc' := 9) rfl rfl ?_ ?_ | refine wp_ifeq (pc' := 9) rfl rfl ?_ ?_
  · intro h6
    refine wp_aload0 (pc' := 57) rfl rfl ?_
    refine wp_pool (v := .ref (lmB + 96)) (pc' := 59) rfl rfl rfl rfl rfl ?_
    refine wp_callV2 (pc' := 62) rfl rfl rfl rfl rfl (by first | exact TK.k1 hT rfl | exact TK.kk hT rfl | exact TK.r hT rfl | assumption) rfl rfl ?_
    rw [if_neg h6] at hJ1
    refine m_passesJ (w := 48) kNot hT (tk_rd hJ1 hR) hqT hJ1.2.2.1 (tk_ss hJ1 hS) (by decide) (by decide) (fun J2 hJ2 => ?_)
    rw [hqq] at hJ2 ⊢
    refine Cont.v ?_
    first | refine wp_ifeqB (pc' := 65) rfl rfl ?_ ?_ | refine wp_ifeq (pc' := 65) rfl rfl ?_ ?_
    · intro h62
      rw [if_neg h62] at hJ2
      have hJ12 := tk_tr hJ1 hJ2
      refine m_bas (d := d) (st := st) (dp := 6) (p := q) hT (tk_rd hJ12 hR) hqT hJ12.2.2.1 (tk_ss hJ12 hS) (lw_tk hJ12 hlw) (by rw [hqq]; exact hg) ?_
      rw [hqq]
      intro J7 hJ7
      rw [show atoF tv T 0 st q = basF tv T st q from rfl] at kk
      exact kk J7 (lr_x (lf_tk hJ12) hJ7)
    · intro h62
      refine wp_aload0 (pc' := 66) rfl rfl ?_
      refine wp_getI (pc' := 69) rfl rfl (by first | exact TK.k1 hT rfl | exact TK.kk hT rfl | exact TK.r hT rfl | assumption) rfl ?_
      rw [(lw_tk (tk_tr hJ1 hJ2) hlw).2.2]
      refine wp_bipush (v := nI 6) (pc' := 71) rfl rfl rfl ?_
      refine wp_icmpneF (pc' := 74) rfl rfl rfl ?_
      refine wp_iconst (v := nI 0) (pc' := 75) rfl rfl rfl ?_
      refine wp_iret rfl rfl (by first | rfl | exact nar_if) ?_
      exact re_f (r := (false, st, q)) Bool.false_ne_true (show atoF tv T 0 st q = _ from bas_nt h62) kk (lr_f (lf_tk (tk_tr hJ1 hJ2)) hJ2.2.2.2)
  · intro h6
    refine wp_aload0 (pc' := 10) rfl rfl ?_
    refine wp_getI (pc' := 13) rfl rfl (by first | exact TK.k1 hT rfl | exact TK.kk hT rfl | exact TK.r hT rfl | assumption) rfl ?_
    rw [(lw_tk hJ1 hlw).2.2]
    refine wp_bipush (v := nI 6) (pc' := 15) rfl rfl rfl ?_
    refine wp_icmpneF (pc' := 18) rfl rfl rfl ?_
    refine wp_iconst (v := nI 0) (pc' := 19) rfl rfl rfl ?_
    refine wp_iret rfl rfl (by first | rfl | exact nar_if) ?_
    exact re_f (r := (false, st, q)) Bool.false_ne_true (show atoF tv T 0 st q = _ from bas_sg h6 (by decide)) kk (lr_f (lf_tk hJ1) hJ1.2.2.2)
theorem m_atoS {K : Nat → Nat × Nat} {L : Nat → Nat → Int64} {R : Nat → Nat → Option Nat} {n s : Nat} {T dp e g4 : Nat} {tv : Nat → Nat} (hT : TK K R n) (hd : dp < 6) (hA : RdX K L R n s T tv 246 (dp + 1) (g4 + 4) (atoF tv T e)) : RdX K L R n s T tv 246 dp (g4 + 7) (atoF tv T (e + 1)) := by
  have hA2 := RdX_up hA 2
  have hB : RdX K L R n s T tv 244 (dp + 1) (g4 + 6) (anyF tv T (atoF tv T e)) := m_any (g := g4 + 5) hT (gr_ato e) (mo_ato e) (by omega) (m_evy (g := g4 + 4) hT (gr_ato e) (mo_ato e) (by omega) hA)
  intro d I st p Q hR hS hp h10 hlw hg kk
  obtain ⟨-, -, hn⟩ := id hT
  refine Ok.enter (F := F_246) (ls := [.ref 318, lDead]) rfl rfl ?_
  refine wp_aload0 (pc' := 1) rfl rfl ?_
  refine wp_bipush (v := nI 40) (pc' := 3) rfl rfl rfl ?_
  refine wp_callV2 (pc' := 6) rfl rfl rfl rfl rfl (by first | exact TK.k1 hT rfl | exact TK.kk hT rfl | exact TK.r hT rfl | assumption) rfl rfl ?_
  refine m_signJ (c := 40) hT hR hp h10 (by decide) (fun J1 hJ1 => ?_)
  obtain ⟨q, hq⟩ : ∃ q, skp tv T p = q := ⟨_, rfl⟩
  have hqT := (skp_ge (tv := tv) hp).2
  have hqq := skp_sk (tv := tv) hp
  have hlT := letN_le (tv := tv) (T := T) (p := q)
  rw [hq] at hJ1 hqT hqq hg kk ⊢
  refine Cont.v ?_
  first | refine wp_ifeqB (pc' := 9) rfl rfl ?_ ?_ | refine wp_ifeq (pc' := 9) rfl rfl ?_ ?_
  · intro h6
    refine wp_aload0 (pc' := 57) rfl rfl ?_
    refine wp_pool (v := .ref (lmB + 96)) (pc' := 59) rfl rfl rfl rfl rfl ?_
    refine wp_callV2 (pc' := 62) rfl rfl rfl rfl rfl (by first | exact TK.k1 hT rfl | exact TK.kk hT rfl | exact TK.r hT rfl | assumption) rfl rfl ?_
    rw [if_neg h6] at hJ1
    refine m_passesJ (w := 48) kNot hT (tk_rd hJ1 hR) hqT hJ1.2.2.1 (tk_ss hJ1 hS) (by decide) (by decide) (fun J2 hJ2 => ?_)
    rw [hqq] at hJ2 ⊢
    refine Cont.v ?_
    first | refine wp_ifeqB (pc' := 65) rfl rfl ?_ ?_ | refine wp_ifeq (pc' := 65) rfl rfl ?_ ?_
    · intro h62
      rw [if_neg h62] at hJ2
      have hJ12 := tk_tr hJ1 hJ2
      refine m_bas (d := d + g4) (st := st) (dp := dp) (p := q) hT (tk_rd hJ12 hR) hqT hJ12.2.2.1 (tk_ss hJ12 hS) (lw_tk hJ12 hlw) (by rw [hqq]; exact hg) ?_
      rw [hqq]
      intro J7 hJ7
      rw [ato_b h6 h62] at kk
      exact kk J7 (lr_x (lf_tk hJ12) hJ7)
    · intro h62
      refine wp_aload0 (pc' := 66) rfl rfl ?_
      refine wp_getI (pc' := 69) rfl rfl (by first | exact TK.k1 hT rfl | exact TK.kk hT rfl | exact TK.r hT rfl | assumption) rfl ?_
      rw [(lw_tk (tk_tr hJ1 hJ2) hlw).2.2]
      refine wp_bipush (v := nI 6) (pc' := 71) rfl rfl rfl ?_
      refine wp_icmpneT rfl (fun z => absurd (eq_nI z (by omega) (by decide)) (by omega)) ?_
      refine wp_aload0 (pc' := 77) rfl rfl ?_
      refine wp_dup (pc' := 78) rfl rfl rfl ?_
      refine wp_getI (pc' := 81) rfl rfl (by first | exact TK.k1 hT rfl | exact TK.kk hT rfl | exact TK.r hT rfl | assumption) rfl ?_
      rw [(lw_tk (tk_tr hJ1 hJ2) hlw).2.2]
      refine wp_iconst (v := nI 1) (pc' := 82) rfl rfl rfl ?_
      first | refine wp_iaddN (pc' := 83) rfl (by with_reducible rfl) (by with_reducible rfl) rfl ?_ | refine wp_iadd (pc' := 83) rfl rfl ?_
      refine wp_putI (pc' := 86) rfl rfl (by first | exact TK.k1 hT rfl | exact TK.kk hT rfl | exact TK.r hT rfl | assumption) (by omega) rfl ?_
      refine wp_aload0 (pc' := 87) rfl rfl ?_
      refine wp_callV1 (pc' := 90) rfl rfl rfl rfl rfl (by first | exact TK.k1 hT rfl | exact TK.kk hT rfl | exact TK.r hT rfl | assumption) rfl rfl ?_
      rw [if_pos h62] at hJ2
      have hJ12 := tk_tr hJ1 hJ2
      have haf := af_gt (tv := tv) hqT
      refine hA2 _ _ st (q + letN tv T q) _ (lf_rd lf_dp (tk_rd hJ12 hR)) (lf_ss lf_dp (tk_ss hJ12 hS)) (by omega) (pt_dp hJ12.2.2.1) (lw_dp (lw_tk hJ12 hlw)) (show st.2 + 1 ≤ af tv T q by omega) (fun J3 hJ3 => ?_)
      obtain ⟨r3, hr3⟩ : ∃ r, atoF tv T e st (af tv T q) = r := ⟨_, rfl⟩
      rw [show atoF tv T e st (skp tv T (q + letN tv T q)) = r3 from hr3] at hJ3 ⊢
      refine Cont.v ?_
      first | refine wp_ifneB (pc' := 93) rfl rfl ?_ ?_ | refine wp_ifne (pc' := 93) rfl rfl ?_ ?_
      · intro h90
        refine wp_aload0 (pc' := 96) rfl rfl ?_
        refine wp_dup (pc' := 97) rfl rfl rfl ?_
        refine wp_getI (pc' := 100) rfl rfl (by first | exact TK.k1 hT rfl | exact TK.kk hT rfl | exact TK.r hT rfl | assumption) rfl ?_
        obtain ⟨hLw3, p3, hp3, hJ3p, hz3⟩ := hJ3.2.2.2.1 h90
        rw [hLw3.2.2]
        refine wp_iconst (v := nI 1) (pc' := 101) rfl rfl rfl ?_
        first | refine wp_isubN (pc' := 102) rfl (by with_reducible rfl) (by with_reducible rfl) (by omega) rfl ?_ | refine wp_isub (pc' := 102) rfl rfl ?_
        refine wp_putI (pc' := 105) rfl rfl (by first | exact TK.k1 hT rfl | exact TK.kk hT rfl | exact TK.r hT rfl | assumption) (by omega) rfl ?_
        rw [Nat.add_sub_cancel]
        refine wp_aload0 (pc' := 106) rfl rfl ?_
        refine wp_bipush (v := nI 14) (pc' := 108) rfl rfl rfl ?_
        refine wp_iconst (v := nI 0) (pc' := 109) rfl rfl rfl ?_
        refine wp_callV3 (pc' := 112) rfl rfl rfl rfl rfl (by first | exact TK.k1 hT rfl | exact TK.kk hT rfl | exact TK.r hT rfl | assumption) rfl rfl ?_
        have hGa := gr_ato (tv := tv) (T := T) e st (af tv T q) haf.2 (by rw [hr3]; exact h90)
        rw [hr3] at hGa
        have hT4 := hR.2.1
        refine m_emits (z := r3.2.1.2) hT (lw_dp (e := dp) hLw3).2.1 (by omega) (fun J4 hJ4 => ?_)
        refine Cont.u ?_
        refine wp_iconst (v := nI 1) (pc' := 113) rfl rfl rfl ?_
        refine wp_iret rfl rfl (by first | rfl | exact nar_if) ?_
        exact re_t (r := (true, putS r3.2.1 (nI 1010), r3.2.2)) rfl (by rw [ato_n h62, hr3, not_t h90]) kk (lr_t (lf_t (lf_tk hJ12) (lf_t lf_dp (lf_t (lf_lr hJ3) (lf_t lf_dp (lf_em hJ4))))) (lw_em (lw_dp hLw3) (by omega) (v := nI 1010) hJ4).1 hp3 (by rw [hJ4.2.2.2.2.1 10 (by decide)]; exact pt_dp hJ3p) hz3)
      · intro h90
        refine wp_iconst (v := nI 0) (pc' := 94) rfl rfl rfl ?_
        refine wp_iret rfl rfl (by first | rfl | exact nar_if) ?_
        exact re_f (r := (false, r3.2.1, r3.2.2)) Bool.false_ne_true (by rw [ato_n h62, hr3, not_f h90]) kk (lr_f (lf_t (lf_tk hJ12) (lf_t lf_dp (lf_lr hJ3))) (hJ3.2.2.2.2 (re_no h90)))
  · intro h6
    refine wp_aload0 (pc' := 10) rfl rfl ?_
    refine wp_getI (pc' := 13) rfl rfl (by first | exact TK.k1 hT rfl | exact TK.kk hT rfl | exact TK.r hT rfl | assumption) rfl ?_
    rw [(lw_tk hJ1 hlw).2.2]
    refine wp_bipush (v := nI 6) (pc' := 15) rfl rfl rfl ?_
    refine wp_icmpneT rfl (fun z => absurd (eq_nI z (by omega) (by decide)) (by omega)) ?_
    refine wp_aload0 (pc' := 21) rfl rfl ?_
    refine wp_dup (pc' := 22) rfl rfl rfl ?_
    refine wp_getI (pc' := 25) rfl rfl (by first | exact TK.k1 hT rfl | exact TK.kk hT rfl | exact TK.r hT rfl | assumption) rfl ?_
    rw [(lw_tk hJ1 hlw).2.2]
    refine wp_iconst (v := nI 1) (pc' := 26) rfl rfl rfl ?_
    first | refine wp_iaddN (pc' := 27) rfl (by with_reducible rfl) (by with_reducible rfl) rfl ?_ | refine wp_iadd (pc' := 27) rfl rfl ?_
    refine wp_putI (pc' := 30) rfl rfl (by first | exact TK.k1 hT rfl | exact TK.kk hT rfl | exact TK.r hT rfl | assumption) (by omega) rfl ?_
    refine wp_aload0 (pc' := 31) rfl rfl ?_
    refine wp_callV1 (pc' := 34) rfl rfl rfl rfl rfl (by first | exact TK.k1 hT rfl | exact TK.kk hT rfl | exact TK.r hT rfl | assumption) rfl rfl ?_
    rw [if_pos h6] at hJ1
    have hsq := skp_ge (tv := tv) (T := T) (p := q + 1) h6.1
    refine hB _ _ st (q + 1) _ (lf_rd lf_dp (tk_rd hJ1 hR)) (lf_ss lf_dp (tk_ss hJ1 hS)) h6.1 (pt_dp hJ1.2.2.1) (lw_dp (lw_tk hJ1 hlw)) (by omega) (fun J3 hJ3 => ?_)
    obtain ⟨r3, hr3⟩ : ∃ r, anyF tv T (atoF tv T e) st (skp tv T (q + 1)) = r := ⟨_, rfl⟩
    rw [hr3] at hJ3 ⊢
    refine Cont.v ?_
    first | refine wp_ifneB (pc' := 37) rfl rfl ?_ ?_ | refine wp_ifne (pc' := 37) rfl rfl ?_ ?_
    · intro h34
      refine wp_aload0 (pc' := 40) rfl rfl ?_
      refine wp_dup (pc' := 41) rfl rfl rfl ?_
      refine wp_getI (pc' := 44) rfl rfl (by first | exact TK.k1 hT rfl | exact TK.kk hT rfl | exact TK.r hT rfl | assumption) rfl ?_
      obtain ⟨hLw3, p3, hp3, hJ3p, hz3⟩ := hJ3.2.2.2.1 h34
      rw [hLw3.2.2]
      refine wp_iconst (v := nI 1) (pc' := 45) rfl rfl rfl ?_
      first | refine wp_isubN (pc' := 46) rfl (by with_reducible rfl) (by with_reducible rfl) (by omega) rfl ?_ | refine wp_isub (pc' := 46) rfl rfl ?_
      refine wp_putI (pc' := 49) rfl rfl (by first | exact TK.k1 hT rfl | exact TK.kk hT rfl | exact TK.r hT rfl | assumption) (by omega) rfl ?_
      rw [Nat.add_sub_cancel]
      refine wp_aload0 (pc' := 50) rfl rfl ?_
      refine wp_bipush (v := nI 41) (pc' := 52) rfl rfl rfl ?_
      refine wp_callV2 (pc' := 55) rfl rfl rfl rfl rfl (by first | exact TK.k1 hT rfl | exact TK.kk hT rfl | exact TK.r hT rfl | assumption) rfl rfl ?_
      refine m_signJ (c := 41) hT (lf_rd (lf_t (lf_tk hJ1) (lf_t lf_dp (lf_t (lf_lr hJ3) lf_dp))) hR) hp3 (pt_dp hJ3p) (by decide) (fun J4 hJ4 => ?_)
      rw [hz3] at hJ4 ⊢
      refine Cont.v ?_
      refine wp_iret rfl rfl (by first | rfl | exact nar_if) ?_
      by_cases c9 : sgn tv T r3.2.2 41
      · rw [if_pos c9] at hJ4 ⊢
        exact re_t (r := (true, r3.2.1, skp tv T (r3.2.2 + 1))) rfl (by rw [ato_p h6, hr3, cls_t h34 c9]) kk (lr_t (lf_t (lf_tk hJ1) (lf_t lf_dp (lf_t (lf_lr hJ3) (lf_t lf_dp (lf_tk hJ4))))) (lw_tk hJ4 (lw_dp hLw3)) c9.1 hJ4.2.2.1 rfl)
      · rw [if_neg c9] at hJ4 ⊢
        exact re_f (r := (false, r3.2.1, r3.2.2)) Bool.false_ne_true (by rw [ato_p h6, hr3, cls_f (fun z => c9 z.2)]) kk (lr_f (lf_t (lf_tk hJ1) (lf_t lf_dp (lf_t (lf_lr hJ3) (lf_t lf_dp (lf_tk hJ4))))) hJ4.2.2.2)
    · intro h34
      refine wp_iconst (v := nI 0) (pc' := 38) rfl rfl rfl ?_
      refine wp_iret rfl rfl (by first | rfl | exact nar_if) ?_
      exact re_f (r := (false, r3.2.1, r3.2.2)) Bool.false_ne_true (by rw [ato_p h6, hr3, cls_f (fun z => h34 z.1)]) kk (lr_f (lf_t (lf_tk hJ1) (lf_t lf_dp (lf_lr hJ3))) (hJ3.2.2.2.2 (re_no h34)))
theorem m_ato {K : Nat → Nat × Nat} {L : Nat → Nat → Int64} {R : Nat → Nat → Option Nat} {n s : Nat} {T : Nat} {tv : Nat → Nat} (hT : TK K R n) : ∀ e dp, dp + e = 6 → RdX K L R n s T tv 246 dp (3 * e + 7) (atoF tv T e)
  | 0, dp, h => by
    obtain rfl : dp = 6 := by omega
    exact m_ato0 hT
  | e + 1, dp, h => m_atoS (g4 := 3 * e + 3) hT (by omega) (m_ato hT e (dp + 1) (by omega))
theorem m_readCond {K : Nat → Nat × Nat} {L : Nat → Nat → Int64} {R : Nat → Nat → Option Nat} {n s : Nat} {T : Nat} {tv : Nat → Nat} (hT : TK K R n) : RdX K L R n s T tv 244 0 27 (anyF tv T (atoF tv T 6)) :=
  m_any (g := 26) hT (gr_ato 6) (mo_ato 6) (by decide) (m_evy (g := 25) hT (gr_ato 6) (mo_ato 6) (by decide) (m_ato hT 6 0 rfl))
theorem gr_any {tv : Nat → Nat} {T : Nat} : Gr T (anyF tv T (atoF tv T 6)) := gr_lis (by decide) (gr_lis (by decide) (gr_ato 6))
theorem mo_any {tv : Nat → Nat} {T : Nat} : Mo T (anyF tv T (atoF tv T 6)) := mo_lis (mo_lis (mo_ato 6))

