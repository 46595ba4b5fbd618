/-! A TEXT OF THE LAW: atoms -/
def afS (tv : Nat → Nat) (T p c : Nat) : Nat := if sgn tv T p c then skp tv T (p + 1) else p
theorem afS_t {tv : Nat → Nat} {T p c : Nat} (h : sgn tv T p c) : afS tv T p c = skp tv T (p + 1) := if_pos h
theorem afS_f {tv : Nat → Nat} {T p c : Nat} (h : ¬ sgn tv T p c) : afS tv T p c = p := if_neg h
theorem c_sgn {d : Nat} {K : Nat → Nat × Nat} {I : Mem} {L : Nat → Nat → Int64} {R : Nat → Nat → Option Nat} {n s : Nat} {Q : Lo → Lm → Prop} {T p c : Nat} {tv : Nat → Nat} (hT : TK K R n) (hR : RdI I T tv) (hp : p ≤ T) (hc : c < 256) (kk : Q (.inl (some (.int (if sgn tv T p c then nI 1 else nI 0)))) (K, rdM I (afS tv T p c), L, R, n, s)) : Ok (d + 2) 94 [.ref 39, .int (nI c)] (K, rdM I p, L, R, n, s) Q := by
  refine c_takeSign hT hR hp hc (fun h => ?_) (fun h => ?_)
  · rw [if_neg h, afS_f h] at kk; exact kk
  · rw [if_pos h, afS_t h] at kk; exact kk
theorem RdC_up {K : Nat → Nat × Nat} {I : Mem} {L : Nat → Nat → Int64} {R : Nat → Nat → Option Nat} {n s : Nat} {T M dp g : Nat} {F : Sz → Nat → Re} (h : RdC K I L R n s T M dp g F) (k : Nat) : RdC K I L R n s T M dp (g + k) F := by
  intro d st p Q hz hp kk
  exact Ok.mono (by omega) (h d st p Q hz hp kk) (fun _ _ q => q)

theorem c_bas {d : Nat} {K : Nat → Nat × Nat} {I : Mem} {L : Nat → Nat → Int64} {R : Nat → Nat → Option Nat} {n s : Nat} {Q : Lo → Lm → Prop} {T p : Nat} {tv : Nat → Nat} {st : Sz} {x : Int32} {v2 v3 : Value} (hT : TK K R n) (hR : RdI I T tv) (hS : SS K I R) (h2 : isL v2 = false) (hz : st.2 ≤ 400) (hp : p ≤ T) (kk : ∀ b st2 q, basF tv T st p = (b, st2, q) → st2.2 ≤ 400 → q ≤ T → Q (.inl (some (.int (if b = true then nI 1 else nI 0)))) (K, lw I st2 q, L, R, n, s)) : WP (d + 5) F_101 85 [.ref 41, .int x, v2, v3] [] (K, lw I st p, L, R, n, s) Q := by
  obtain ⟨-, -, hn⟩ := id hT
  have hRl : ∀ st, RdI (lw0 I st) T tv := fun st => lw0_rd hR
  have hSl : ∀ st, SS K (lw0 I st) R := fun st => lw0_ss hS
  cases hk : wd tv T p facW with
  | some k =>
    have hk3 : k < 3 := by have := (pickW_lt _ _ _ hk).2; exact this
    refine wp_aload0 (pc' := 86) rfl rfl ?_
    refine wp_getRF (pc' := 89) rfl rfl (by first | exact TK.k1 hT rfl | exact TK.kk hT rfl | exact TK.r hT rfl | assumption) (by first | exact TK.k1 hT rfl | exact TK.kk hT rfl | exact TK.r hT rfl | assumption) rfl ?_
    refine wp_pool (v := .ref (lmB + 20)) (pc' := 91) rfl rfl rfl rfl rfl ?_
    refine wp_callV2 (pc' := 94) rfl rfl rfl rfl rfl (by first | exact TK.k1 hT rfl | exact TK.kk hT rfl | exact TK.r hT rfl | assumption) rfl rfl ?_
    change Ok _ _ _ (K, rdM (lw0 I st) p, L, R, n, s) _
    refine c_pick (w := 10) facW hT (hRl _) (hSl _) (by decide) (by decide) (by decide) hp (fun h => absurd (hk.symm.trans h) (by simp)) (fun k2 h => ?_)
    obtain rfl : k2 = k := by rw [hk] at h; cases h; rfl
    refine Cont.v ?_
    refine wp_istore2 (pc' := 95) rfl (by first | rfl | assumption) rfl ?_
    refine wp_iload2 (pc' := 96) rfl rfl ?_
    refine wp_iconst (v := (-1)) (pc' := 97) rfl rfl rfl ?_
    refine wp_icmpeqF (pc' := 100) rfl (nI_nm1 (by omega)) rfl ?_
    refine wp_aload0 (pc' := 101) rfl rfl ?_
    refine wp_sipush (v := nI 1007) (pc' := 104) rfl rfl rfl ?_
    refine wp_iload2 (pc' := 105) rfl rfl ?_
    first | refine wp_iaddN (pc' := 106) rfl (by with_reducible rfl) (by with_reducible rfl) rfl ?_ | refine wp_iadd (pc' := 106) rfl rfl ?_
    refine wp_callV2 (pc' := 109) rfl rfl rfl rfl rfl (by first | exact TK.k1 hT rfl | exact TK.kk hT rfl | exact TK.r hT rfl | assumption) rfl rfl ?_
    change Ok _ _ _ (K, lw I st (af tv T p), L, R, n, s) _
    refine c_put hT hz ?_
    refine Cont.u ?_
    refine wp_iconst (v := nI 1) (pc' := 110) rfl rfl rfl ?_
    refine wp_iret rfl rfl (by first | rfl | exact nar_if) ?_
    exact kk true _ _ (by unfold basF; rw [hk]) (putS_le hz) (af_ge hp).2
  | none =>
    refine wp_aload0 (pc' := 86) rfl rfl ?_
    refine wp_getRF (pc' := 89) rfl rfl (by first | exact TK.k1 hT rfl | exact TK.kk hT rfl | exact TK.r hT rfl | assumption) (by first | exact TK.k1 hT rfl | exact TK.kk hT rfl | exact TK.r hT rfl | assumption) rfl ?_
    refine wp_pool (v := .ref (lmB + 20)) (pc' := 91) rfl rfl rfl rfl rfl ?_
    refine wp_callV2 (pc' := 94) rfl rfl rfl rfl rfl (by first | exact TK.k1 hT rfl | exact TK.kk hT rfl | exact TK.r hT rfl | assumption) rfl rfl ?_
    change Ok _ _ _ (K, rdM (lw0 I st) p, L, R, n, s) _
    refine c_pick (w := 10) facW hT (hRl _) (hSl _) (by decide) (by decide) (by decide) hp (fun h => ?_) (fun k2 h => absurd (hk.symm.trans h) (by simp))
    refine Cont.v ?_
    refine wp_istore2 (pc' := 95) rfl (by first | rfl | assumption) rfl ?_
    refine wp_iload2 (pc' := 96) rfl rfl ?_
    refine wp_iconst (v := (-1)) (pc' := 97) rfl rfl rfl ?_
    refine wp_icmpeqT rfl rfl ?_
    refine wp_aload0 (pc' := 112) rfl rfl ?_
    refine wp_callV1 (pc' := 115) rfl rfl rfl rfl rfl (by first | exact TK.k1 hT rfl | exact TK.kk hT rfl | exact TK.r hT rfl | assumption) rfl rfl ?_
    change Ok _ _ _ (K, lw I st p, L, R, n, s) _
    refine c_readSum hT hR hS hz hp (fun b1 st1 q1 e1 hz1 hq1 => ?_)
    refine Cont.v ?_
    first | refine wp_ifneB (pc' := 118) rfl rfl ?_ ?_ | refine wp_ifne (pc' := 118) rfl rfl ?_ ?_
    · intro h115
      refine wp_aload0 (pc' := 121) rfl rfl ?_
      refine wp_getRF (pc' := 124) rfl rfl (by first | exact TK.k1 hT rfl | exact TK.kk hT rfl | exact TK.r hT rfl | assumption) (by first | exact TK.k1 hT rfl | exact TK.kk hT rfl | exact TK.r hT rfl | assumption) rfl ?_
      refine wp_bipush (v := nI 60) (pc' := 126) rfl rfl rfl ?_
      refine wp_callV2 (pc' := 129) rfl rfl rfl rfl rfl (by first | exact TK.k1 hT rfl | exact TK.kk hT rfl | exact TK.r hT rfl | assumption) rfl rfl ?_
      change Ok _ _ _ (K, rdM (lw0 I st1) q1, L, R, n, s) _
      refine c_sgn hT (hRl _) hq1 (by decide) ?_
      refine Cont.v ?_
      first | refine wp_ifeqB (pc' := 132) rfl rfl ?_ ?_ | refine wp_ifeq (pc' := 132) rfl rfl ?_ ?_
      · intro h129
        rw [afS_f h129]
        refine wp_aload0 (pc' := 139) rfl rfl ?_
        refine wp_getRF (pc' := 142) rfl rfl (by first | exact TK.k1 hT rfl | exact TK.kk hT rfl | exact TK.r hT rfl | assumption) (by first | exact TK.k1 hT rfl | exact TK.kk hT rfl | exact TK.r hT rfl | assumption) rfl ?_
        refine wp_bipush (v := nI 62) (pc' := 144) rfl rfl rfl ?_
        refine wp_callV2 (pc' := 147) rfl rfl rfl rfl rfl (by first | exact TK.k1 hT rfl | exact TK.kk hT rfl | exact TK.r hT rfl | assumption) rfl rfl ?_
        change Ok _ _ _ (K, rdM (lw0 I st1) q1, L, R, n, s) _
        refine c_sgn hT (hRl _) hq1 (by decide) ?_
        refine Cont.v ?_
        first | refine wp_ifeqB (pc' := 150) rfl rfl ?_ ?_ | refine wp_ifeq (pc' := 150) rfl rfl ?_ ?_
        · intro h147
          rw [afS_f h147]
          refine wp_iconst (v := (-1)) (pc' := 157) rfl rfl rfl ?_
          refine wp_istore3 (pc' := 158) rfl (by first | rfl | assumption) rfl ?_
          refine wp_iload3 (pc' := 159) rfl rfl ?_
          refine wp_iconst (v := (-1)) (pc' := 160) rfl rfl rfl ?_
          refine wp_icmpeqT rfl rfl ?_
          refine wp_iconst (v := nI 0) (pc' := 171) rfl rfl rfl ?_
          refine wp_iret rfl rfl (by first | rfl | exact nar_if) ?_
          first | exact kk false st1 q1 (by unfold basF; rw [hk]; dsimp only; unfold cmpF; rw [e1, if_pos h115]; dsimp only; rw [if_neg h129, if_neg h147]) hz1 hq1 | (obtain rfl : b2 = false := Bool.eq_false_iff.mpr h167; exact kk false st3 q3 (by unfold basF; rw [hk]; dsimp only; unfold cmpF; rw [e1, if_pos h115]; dsimp only; first | (rw [if_pos h129, e3]; rfl) | (rw [if_neg h129, if_pos h147, e3]; rfl)) hz3 hq3)
        · intro h147
          rw [afS_t h147]
          have hq1b : q1 + 1 ≤ T := h147.1
          refine wp_sipush (v := nI 1013) (pc' := 153) rfl rfl rfl ?_
          refine wp_goto rfl ?_
          refine wp_istore3 (pc' := 158) rfl (by first | rfl | assumption) rfl ?_
          refine wp_iload3 (pc' := 159) rfl rfl ?_
          refine wp_iconst (v := (-1)) (pc' := 160) rfl rfl rfl ?_
          refine wp_icmpeqF (pc' := 163) rfl (by decide) rfl ?_
          refine wp_aload0 (pc' := 164) rfl rfl ?_
          refine wp_callV1 (pc' := 167) rfl rfl rfl rfl rfl (by first | exact TK.k1 hT rfl | exact TK.kk hT rfl | exact TK.r hT rfl | assumption) rfl rfl ?_
          change Ok _ _ _ (K, lw I st1 (skp tv T (q1 + 1)), L, R, n, s) _
          refine c_readSum hT hR hS hz1 (skp_ge (p := q1 + 1) hq1b).2 (fun b2 st3 q3 e3 hz3 hq3 => ?_)
          refine Cont.v ?_
          first | refine wp_ifneB (pc' := 170) rfl rfl ?_ ?_ | refine wp_ifne (pc' := 170) rfl rfl ?_ ?_
          · intro h167
            refine wp_aload0 (pc' := 173) rfl rfl ?_
            refine wp_iload3 (pc' := 174) rfl rfl ?_
            refine wp_callV2 (pc' := 177) rfl rfl rfl rfl rfl (by first | exact TK.k1 hT rfl | exact TK.kk hT rfl | exact TK.r hT rfl | assumption) rfl rfl ?_
            refine c_put hT hz3 ?_
            refine Cont.u ?_
            refine wp_iconst (v := nI 1) (pc' := 178) rfl rfl rfl ?_
            refine wp_iret rfl rfl (by first | rfl | exact nar_if) ?_
            first | exact kk true _ q3 (by unfold basF; rw [hk]; dsimp only; unfold cmpF; rw [e1, if_pos h115]; dsimp only; rw [if_pos h129, e3, if_pos h167]) (putS_le hz3) hq3 | exact kk true _ q3 (by unfold basF; rw [hk]; dsimp only; unfold cmpF; rw [e1, if_pos h115]; dsimp only; rw [if_neg h129, if_pos h147, e3, if_pos h167]) (putS_le hz3) hq3
          · intro h167
            refine wp_iconst (v := nI 0) (pc' := 171) rfl rfl rfl ?_
            refine wp_iret rfl rfl (by first | rfl | exact nar_if) ?_
            first | exact kk false st1 q1 (by unfold basF; rw [hk]; dsimp only; unfold cmpF; rw [e1, if_pos h115]; dsimp only; rw [if_neg h129, if_neg h147]) hz1 hq1 | (obtain rfl : b2 = false := Bool.eq_false_iff.mpr h167; exact kk false st3 q3 (by unfold basF; rw [hk]; dsimp only; unfold cmpF; rw [e1, if_pos h115]; dsimp only; first | (rw [if_pos h129, e3]; rfl) | (rw [if_neg h129, if_pos h147, e3]; rfl)) hz3 hq3)
      · intro h129
        rw [afS_t h129]
        have hq1b : q1 + 1 ≤ T := h129.1
        refine wp_sipush (v := nI 1012) (pc' := 135) rfl rfl rfl ?_
        refine wp_goto rfl ?_
        refine wp_istore3 (pc' := 158) rfl (by first | rfl | assumption) rfl ?_
        refine wp_iload3 (pc' := 159) rfl rfl ?_
        refine wp_iconst (v := (-1)) (pc' := 160) rfl rfl rfl ?_
        refine wp_icmpeqF (pc' := 163) rfl (by decide) rfl ?_
        refine wp_aload0 (pc' := 164) rfl rfl ?_
        refine wp_callV1 (pc' := 167) rfl rfl rfl rfl rfl (by first | exact TK.k1 hT rfl | exact TK.kk hT rfl | exact TK.r hT rfl | assumption) rfl rfl ?_
        change Ok _ _ _ (K, lw I st1 (skp tv T (q1 + 1)), L, R, n, s) _
        refine c_readSum hT hR hS hz1 (skp_ge (p := q1 + 1) hq1b).2 (fun b2 st3 q3 e3 hz3 hq3 => ?_)
        refine Cont.v ?_
        first | refine wp_ifneB (pc' := 170) rfl rfl ?_ ?_ | refine wp_ifne (pc' := 170) rfl rfl ?_ ?_
        · intro h167
          refine wp_aload0 (pc' := 173) rfl rfl ?_
          refine wp_iload3 (pc' := 174) rfl rfl ?_
          refine wp_callV2 (pc' := 177) rfl rfl rfl rfl rfl (by first | exact TK.k1 hT rfl | exact TK.kk hT rfl | exact TK.r hT rfl | assumption) rfl rfl ?_
          refine c_put hT hz3 ?_
          refine Cont.u ?_
          refine wp_iconst (v := nI 1) (pc' := 178) rfl rfl rfl ?_
          refine wp_iret rfl rfl (by first | rfl | exact nar_if) ?_
          first | exact kk true _ q3 (by unfold basF; rw [hk]; dsimp only; unfold cmpF; rw [e1, if_pos h115]; dsimp only; rw [if_pos h129, e3, if_pos h167]) (putS_le hz3) hq3 | exact kk true _ q3 (by unfold basF; rw [hk]; dsimp only; unfold cmpF; rw [e1, if_pos h115]; dsimp only; rw [if_neg h129, if_pos h147, e3, if_pos h167]) (putS_le hz3) hq3
        · intro h167
          refine wp_iconst (v := nI 0) (pc' := 171) rfl rfl rfl ?_
          refine wp_iret rfl rfl (by first | rfl | exact nar_if) ?_
          first | exact kk false st1 q1 (by unfold basF; rw [hk]; dsimp only; unfold cmpF; rw [e1, if_pos h115]; dsimp only; rw [if_neg h129, if_neg h147]) hz1 hq1 | (obtain rfl : b2 = false := Bool.eq_false_iff.mpr h167; exact kk false st3 q3 (by unfold basF; rw [hk]; dsimp only; unfold cmpF; rw [e1, if_pos h115]; dsimp only; first | (rw [if_pos h129, e3]; rfl) | (rw [if_neg h129, if_pos h147, e3]; rfl)) hz3 hq3)
    · intro h115
      refine wp_iconst (v := nI 0) (pc' := 119) rfl rfl rfl ?_
      refine wp_iret rfl rfl (by first | rfl | exact nar_if) ?_
      obtain rfl : b1 = false := Bool.eq_false_iff.mpr h115
      exact kk false st1 q1 (by unfold basF; rw [hk]; dsimp only; unfold cmpF; rw [e1]; rfl) hz1 hq1
theorem c_ato0 {K : Nat → Nat × Nat} {I : Mem} {L : Nat → Nat → Int64} {R : Nat → Nat → Option Nat} {n s : Nat} {T : Nat} {tv : Nat → Nat} (hT : TK K R n) (hR : RdI I T tv) (hS : SS K I R) : RdC K I L R n s T 101 6 0 (atoF tv T 0) := by
  intro d st p Q hz hp kk
  obtain ⟨-, -, hn⟩ := id hT
  have hRl : ∀ st, RdI (lw0 I st) T tv := fun st => lw0_rd hR
  have hSl : ∀ st, SS K (lw0 I st) R := fun st => lw0_ss hS
  refine Ok.enter (F := F_101) (ls := [.ref 41, .int (nI 6), lDead, lDead]) rfl rfl ?_
  refine wp_iload1 (pc' := 1) rfl rfl ?_
  refine wp_bipush (v := nI 6) (pc' := 3) rfl rfl rfl ?_
  refine wp_icmpgeT rfl (by decide) ?_
  refine wp_iload1 (pc' := 40) rfl rfl ?_
  refine wp_bipush (v := nI 6) (pc' := 42) rfl rfl rfl ?_
  refine wp_icmpgeT rfl (by decide) ?_
  exact c_bas hT hR hS rfl hz hp kk
theorem c_atoS {K : Nat → Nat × Nat} {I : Mem} {L : Nat → Nat → Int64} {R : Nat → Nat → Option Nat} {n s : Nat} {T dp e g : Nat} {tv : Nat → Nat} (hT : TK K R n) (hR : RdI I T tv) (hS : SS K I R) (hd : dp < 6) (hA : RdC K I L R n s T 101 (dp + 1) g (atoF tv T e)) : RdC K I L R n s T 101 dp (g + 3) (atoF tv T (e + 1)) := by
  intro d st p Q hz hp kk
  obtain ⟨-, -, hn⟩ := id hT
  have hRl : ∀ st, RdI (lw0 I st) T tv := fun st => lw0_rd hR
  have hSl : ∀ st, SS K (lw0 I st) R := fun st => lw0_ss hS
  have hA2 := RdC_up hA 2
  have hB : RdC K I L R n s T 99 (dp + 1) (g + 2) (anyF tv T (atoF tv T e)) := c_any hT hR hS (c_evy hT hR hS hA)
  rw [show d + (g + 3) + 6 = (d + (g + 2) + 6) + 1 by omega]
  refine Ok.enter (F := F_101) (ls := [.ref 41, .int (nI dp), lDead, lDead]) rfl rfl ?_
  refine wp_iload1 (pc' := 1) rfl rfl ?_
  refine wp_bipush (v := nI 6) (pc' := 3) rfl rfl rfl ?_
  refine wp_icmpgeF (pc' := 6) rfl (nI_lt (by omega) (by decide)) rfl ?_
  refine wp_aload0 (pc' := 7) rfl rfl ?_
  refine wp_getRF (pc' := 10) rfl rfl (by first | exact TK.k1 hT rfl | exact TK.kk hT rfl | exact TK.r hT rfl | assumption) (by first | exact TK.k1 hT rfl | exact TK.kk hT rfl | exact TK.r hT rfl | assumption) rfl ?_
  refine wp_pool (v := .ref (lmB + 18)) (pc' := 12) rfl rfl rfl rfl rfl ?_
  refine wp_callV2 (pc' := 15) rfl rfl rfl rfl rfl (by first | exact TK.k1 hT rfl | exact TK.kk hT rfl | exact TK.r hT rfl | assumption) rfl rfl ?_
  change Ok _ _ _ (K, rdM (lw0 I st) p, L, R, n, s) _
  refine c_word (w := 9) kNot hT (hRl _) (hSl _) (by decide) (by decide) (by decide) hp ?_
  refine Cont.v ?_
  first | refine wp_ifeqB (pc' := 18) rfl rfl ?_ ?_ | refine wp_ifeq (pc' := 18) rfl rfl ?_ ?_
  · intro h15
    refine wp_iload1 (pc' := 40) rfl rfl ?_
    refine wp_bipush (v := nI 6) (pc' := 42) rfl rfl rfl ?_
    refine wp_icmpgeF (pc' := 45) rfl (nI_lt (by omega) (by decide)) rfl ?_
    refine wp_aload0 (pc' := 46) rfl rfl ?_
    refine wp_getRF (pc' := 49) rfl rfl (by first | exact TK.k1 hT rfl | exact TK.kk hT rfl | exact TK.r hT rfl | assumption) (by first | exact TK.k1 hT rfl | exact TK.kk hT rfl | exact TK.r hT rfl | assumption) rfl ?_
    refine wp_bipush (v := nI 40) (pc' := 51) rfl rfl rfl ?_
    refine wp_callV2 (pc' := 54) rfl rfl rfl rfl rfl (by first | exact TK.k1 hT rfl | exact TK.kk hT rfl | exact TK.r hT rfl | assumption) rfl rfl ?_
    rw [afB_f h15]
    change Ok _ _ _ (K, rdM (lw0 I st) p, L, R, n, s) _
    refine c_sgn hT (hRl _) hp (by decide) ?_
    refine Cont.v ?_
    first | refine wp_ifeqB (pc' := 57) rfl rfl ?_ ?_ | refine wp_ifeq (pc' := 57) rfl rfl ?_ ?_
    · intro h54
      rw [afS_f h54]
      rw [show d + (g + 2) + 6 = (d + (g + 2) + 1) + 5 by omega]
      refine c_bas hT hR hS rfl hz hp (fun b st3 q3 e3 hz3 hq3 => kk b st3 q3 (by unfold atoF; rw [if_neg h15, if_neg h54]; exact e3) hz3 hq3)
    · intro h54
      refine wp_aload0 (pc' := 58) rfl rfl ?_
      refine wp_iload1 (pc' := 59) rfl rfl ?_
      refine wp_iconst (v := nI 1) (pc' := 60) rfl rfl rfl ?_
      first | refine wp_iaddN (pc' := 61) rfl (by with_reducible rfl) (by with_reducible rfl) rfl ?_ | refine wp_iadd (pc' := 61) rfl rfl ?_
      refine wp_callV2 (pc' := 64) rfl rfl rfl rfl rfl (by first | exact TK.k1 hT rfl | exact TK.kk hT rfl | exact TK.r hT rfl | assumption) rfl rfl ?_
      rw [afS_t h54]
      change Ok _ _ _ (K, lw I st (skp tv T (p + 1)), L, R, n, s) _
      refine hB _ _ _ _ hz (skp_ge (p := p + 1) h54.1).2 (fun b st3 q3 e3 hz3 hq3 => ?_)
      refine Cont.v ?_
      first | refine wp_ifeqB (pc' := 67) rfl rfl ?_ ?_ | refine wp_ifeq (pc' := 67) rfl rfl ?_ ?_
      · intro h64
        refine wp_iconst (v := nI 0) (pc' := 84) rfl rfl rfl ?_
        refine wp_iret rfl rfl (by first | rfl | exact nar_if) ?_
        first | (rw [afS_t h76]; exact kk true st3 _ (by unfold atoF; rw [if_neg h15, if_pos h54, e3, clsF, if_pos ⟨h64, h76⟩]) hz3 (skp_ge (p := q3 + 1) h76.1).2) | (rw [afS_f h76]; exact kk false st3 q3 (by unfold atoF; rw [if_neg h15, if_pos h54, e3, clsF, if_neg (fun z => h76 z.2)]) hz3 hq3) | exact kk false st3 q3 (by unfold atoF; rw [if_neg h15, if_pos h54, e3, clsF, if_neg (fun z => h64 z.1)]) hz3 hq3
      · intro h64
        refine wp_aload0 (pc' := 68) rfl rfl ?_
        refine wp_getRF (pc' := 71) rfl rfl (by first | exact TK.k1 hT rfl | exact TK.kk hT rfl | exact TK.r hT rfl | assumption) (by first | exact TK.k1 hT rfl | exact TK.kk hT rfl | exact TK.r hT rfl | assumption) rfl ?_
        refine wp_bipush (v := nI 41) (pc' := 73) rfl rfl rfl ?_
        refine wp_callV2 (pc' := 76) rfl rfl rfl rfl rfl (by first | exact TK.k1 hT rfl | exact TK.kk hT rfl | exact TK.r hT rfl | assumption) rfl rfl ?_
        change Ok _ _ _ (K, rdM (lw0 I st3) q3, L, R, n, s) _
        refine c_sgn hT (hRl _) hq3 (by decide) ?_
        refine Cont.v ?_
        first | refine wp_ifeqB (pc' := 79) rfl rfl ?_ ?_ | refine wp_ifeq (pc' := 79) rfl rfl ?_ ?_
        · intro h76
          refine wp_iconst (v := nI 0) (pc' := 84) rfl rfl rfl ?_
          refine wp_iret rfl rfl (by first | rfl | exact nar_if) ?_
          first | (rw [afS_t h76]; exact kk true st3 _ (by unfold atoF; rw [if_neg h15, if_pos h54, e3, clsF, if_pos ⟨h64, h76⟩]) hz3 (skp_ge (p := q3 + 1) h76.1).2) | (rw [afS_f h76]; exact kk false st3 q3 (by unfold atoF; rw [if_neg h15, if_pos h54, e3, clsF, if_neg (fun z => h76 z.2)]) hz3 hq3) | exact kk false st3 q3 (by unfold atoF; rw [if_neg h15, if_pos h54, e3, clsF, if_neg (fun z => h64 z.1)]) hz3 hq3
        · intro h76
          refine wp_iconst (v := nI 1) (pc' := 80) rfl rfl rfl ?_
          refine wp_goto rfl ?_
          refine wp_iret rfl rfl (by first | rfl | exact nar_if) ?_
          first | (rw [afS_t h76]; exact kk true st3 _ (by unfold atoF; rw [if_neg h15, if_pos h54, e3, clsF, if_pos ⟨h64, h76⟩]) hz3 (skp_ge (p := q3 + 1) h76.1).2) | (rw [afS_f h76]; exact kk false st3 q3 (by unfold atoF; rw [if_neg h15, if_pos h54, e3, clsF, if_neg (fun z => h76 z.2)]) hz3 hq3) | exact kk false st3 q3 (by unfold atoF; rw [if_neg h15, if_pos h54, e3, clsF, if_neg (fun z => h64 z.1)]) hz3 hq3
  · intro h15
    refine wp_aload0 (pc' := 19) rfl rfl ?_
    refine wp_iload1 (pc' := 20) rfl rfl ?_
    refine wp_iconst (v := nI 1) (pc' := 21) rfl rfl rfl ?_
    first | refine wp_iaddN (pc' := 22) rfl (by with_reducible rfl) (by with_reducible rfl) rfl ?_ | refine wp_iadd (pc' := 22) rfl rfl ?_
    refine wp_callV2 (pc' := 25) rfl rfl rfl rfl rfl (by first | exact TK.k1 hT rfl | exact TK.kk hT rfl | exact TK.r hT rfl | assumption) rfl rfl ?_
    rw [afB_t h15]
    refine hA2 _ _ _ _ hz (af_ge hp).2 (fun b st3 q3 e3 hz3 hq3 => ?_)
    refine Cont.v ?_
    first | refine wp_ifneB (pc' := 28) rfl rfl ?_ ?_ | refine wp_ifne (pc' := 28) rfl rfl ?_ ?_
    · intro h25
      refine wp_aload0 (pc' := 31) rfl rfl ?_
      refine wp_sipush (v := nI 1010) (pc' := 34) rfl rfl rfl ?_
      refine wp_callV2 (pc' := 37) rfl rfl rfl rfl rfl (by first | exact TK.k1 hT rfl | exact TK.kk hT rfl | exact TK.r hT rfl | assumption) rfl rfl ?_
      refine c_put hT hz3 ?_
      refine Cont.u ?_
      refine wp_iconst (v := nI 1) (pc' := 38) rfl rfl rfl ?_
      refine wp_iret rfl rfl (by first | rfl | exact nar_if) ?_
      exact kk true _ q3 (by unfold atoF; rw [if_pos h15, e3, notF, if_pos h25]) (putS_le hz3) hq3
    · intro h25
      refine wp_iconst (v := nI 0) (pc' := 29) rfl rfl rfl ?_
      refine wp_iret rfl rfl (by first | rfl | exact nar_if) ?_
      obtain rfl : b = false := Bool.eq_false_iff.mpr h25
      exact kk false st3 q3 (by unfold atoF; rw [if_pos h15, e3]; rfl) hz3 hq3
theorem c_ato {K : Nat → Nat × Nat} {I : Mem} {L : Nat → Nat → Int64} {R : Nat → Nat → Option Nat} {n s : Nat} {T : Nat} {tv : Nat → Nat} (hT : TK K R n) (hR : RdI I T tv) (hS : SS K I R) : ∀ e dp, dp + e = 6 → RdC K I L R n s T 101 dp (3 * e) (atoF tv T e)
  | 0, dp, h => by
    obtain rfl : dp = 6 := by omega
    exact c_ato0 hT hR hS
  | e + 1, dp, h => c_atoS hT hR hS (by omega) (c_ato hT hR hS e (dp + 1) (by omega))
theorem c_readAny {d : Nat} {K : Nat → Nat × Nat} {I : Mem} {L : Nat → Nat → Int64} {R : Nat → Nat → Option Nat} {n s : Nat} {Q : Lo → Lm → Prop} {T p : Nat} {tv : Nat → Nat} {st : Sz} (hT : TK K R n) (hR : RdI I T tv) (hS : SS K I R) (hz : st.2 ≤ 400) (hp : p ≤ T) (kk : ∀ b st2 q, anyF tv T (atoF tv T 6) st p = (b, st2, q) → st2.2 ≤ 400 → q ≤ T → Q (.inl (some (.int (if b = true then nI 1 else nI 0)))) (K, lw I st2 q, L, R, n, s)) : Ok (d + 26) 99 [.ref 41, .int (nI 0)] (K, lw I st p, L, R, n, s) Q :=
  c_any hT hR hS (c_evy hT hR hS (c_ato hT hR hS 6 0 rfl)) d st p Q hz hp kk
