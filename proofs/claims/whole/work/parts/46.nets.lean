/-! NETS; rows that the tape tells -/
def fd1 (x : Int32) (tc : Nat → Nat) (m : Nat) (N : Mem) (i : Nat) : Mem := forN (fun j M => if m = 2 ^ j then up2 M m (tc j) (nI 1 - (jshr x (nI (tc j)) &&& nI 1)) else M) N i
def fdA (x : Int32) (tc : Nat → Nat) (k m : Nat) (N : Mem) : Mem := jpN (fd1 x tc m (upr N m (fillR 25 (nI 1000000) (N m))) k) x m (m - 1)
def fdS (x : Int32) (tc : Nat → Nat) (k m : Nat) (N : Mem) : Mem := upr (fdA x tc k m N) m (rlV (gnF x) 0 25 (fdA x tc k m N m))
def fdN (x : Int32) (tc : Nat → Nat) (k : Nat) (N : Mem) (i : Nat) : Mem := forN (fun j M => fdS x tc k (1 + j) M) N i
def netV (x : Int32) (tc : Nat → Nat) (k : Nat) (N : Mem) : Int32 := if k = 0 then nI 0 else fdN x tc k N (2 ^ k - 1) (2 ^ k - 1) 24
theorem shl5a {k : Nat} (h : k < 5) : jshl (nI 1) (nI k) = nI (2 ^ k) := shl5 ⟨k, h⟩
theorem pow5 {k : Nat} (h : k < 5) : 1 ≤ 2 ^ k ∧ 2 ^ k ≤ 16 := by
  have : k = 0 ∨ k = 1 ∨ k = 2 ∨ k = 3 ∨ k = 4 := by omega
  rcases this with rfl | rfl | rfl | rfl | rfl <;> decide
def netB (tv : Nat → Nat) (T : Nat) : Nat → Bool
  | 0 => decide (T ≤ 4)
  | i + 1 => netB tv T i && decide (tv i < 25)
theorem netB_f {tv : Nat → Nat} {T i : Nat} (h : ¬ netB tv T i = true) : ∀ {m : Nat}, i ≤ m → netB tv T m = false := by
  intro m hm
  induction m with
  | zero => have : i = 0 := by omega
            subst this; exact Bool.eq_false_iff.mpr h
  | succ m ih =>
    by_cases e : i = m + 1
    · subst e; exact Bool.eq_false_iff.mpr h
    · show (netB tv T m && _) = false; rw [ih (by omega)]; rfl
def trB (u v : Nat) (tv : Nat → Nat) (T : Nat) : Nat → Bool
  | 0 => decide (T ≤ 40) && decide (T % 2 = 0)
  | i + 1 => trB u v tv T i && decide (tv i < if i % 2 = 0 then u else v)
theorem trB_f {u v : Nat} {tv : Nat → Nat} {T i : Nat} (h : ¬ trB u v tv T i = true) : ∀ {m : Nat}, i ≤ m → trB u v tv T m = false := by
  intro m hm
  induction m with
  | zero => have : i = 0 := by omega
            subst this; exact Bool.eq_false_iff.mpr h
  | succ m ih =>
    by_cases e : i = m + 1
    · subst e; exact Bool.eq_false_iff.mpr h
    · show (trB u v tv T m && _) = false; rw [ih (by omega)]; rfl

theorem c_joinParts {d : Nat} {K : Nat → Nat × Nat} {I : Nat → Nat → Int32} {L : Nat → Nat → Int64} {R : Nat → Nat → Option Nat} {n s : Nat} {Q : Lo → Lm → Prop} {m : Nat} {x : Int32} {N : Mem} (hT : TK K R n) (hm : m < 16) (hm1 : 1 ≤ m) (kk : Q (.inl none) (K, netsM I (jpN N x m (m - 1)), L, R, n, s)) : Ok (d + 1) 148 [.ref 46, .int (nI m), .int x] (K, netsM I N, L, R, n, s) Q := by
  obtain ⟨-, -, hn⟩ := id hT
  refine Ok.enter (F := F_148) (ls := [.ref 46, .int (nI m), .int x, lDead, lDead, lDead, lDead]) rfl rfl ?_
  refine wp_aload0 (pc' := 1) rfl rfl ?_
  refine wp_getRF (pc' := 4) rfl rfl (by first | exact TK.k1 hT rfl | exact TK.kk hT rfl | exact TK.r hT rfl | assumption) (by first | exact TK.k1 hT rfl | exact TK.kk hT rfl | exact TK.r hT rfl | assumption) rfl ?_
  refine wp_iload1 (pc' := 5) rfl rfl ?_
  refine wp_rald m (pc' := 6) rfl (TK.kk hT rfl) rfl (by omega) (by decide) (TK.net hT (by omega)) rfl ?_
  refine wp_astore3 (pc' := 7) rfl (by first | rfl | assumption) rfl ?_
  refine wp_iconst (v := nI 1) (pc' := 8) rfl rfl rfl ?_
  refine wp_istore4 (pc' := 10) rfl (by first | rfl | assumption) rfl ?_
  have lp10 : ∀ r (i : Nat) (v5 : Value) (v6 : Value), i + r = m → 1 ≤ i → isL v5 = false → isL v6 = false → WP d F_148 10 [.ref 46, .int (nI m), .int x, .ref (50 + m), .int (nI i), v5, v6] [] (K, netsM I (jpN N x m (i - 1)), L, R, n, s) Q := by
    intro r; induction r with
    | zero =>
      intro i v5 v6 hi hv0 hv1 hv2
      have hi2 : i = m := by omega
      subst hi2
      refine wp_iload4 (pc' := 12) rfl rfl ?_
      refine wp_iload1 (pc' := 13) rfl rfl ?_
      refine wp_icmpgeT rfl (nI_nlt (by omega) (by omega)) ?_
      refine wp_vret rfl rfl ?_
      exact kk
    | succ r ih =>
      intro i v5 v6 hi hv0 hv1 hv2
      have hlt : i < m := by omega
      have hz : i + 1 - 1 = (i - 1) + 1 := by omega
      have hy : 1 + (i - 1) = i := by omega
      have hsx : jpN N x m (i + 1 - 1) = jpS x m i (jpN N x m (i - 1)) := by
        rw [hz]; show jpS x m (1 + (i - 1)) _ = _; rw [hy]; rfl
      generalize hG : jpN N x m (i - 1) = G at hsx ⊢
      refine wp_iload4 (pc' := 12) rfl rfl ?_
      refine wp_iload1 (pc' := 13) rfl rfl ?_
      refine wp_icmpgeF (pc' := 16) rfl (nI_lt (by omega) (by omega)) rfl ?_
      refine wp_iconst (v := nI 0) (pc' := 17) rfl rfl rfl ?_
      refine wp_istore5 (pc' := 19) rfl (by first | rfl | assumption) rfl ?_
      have lp19 : ∀ rb (j : Nat) (v6 : Value), j + rb = 25 → (i &&& m) = i ∨ j = 0 → isL v6 = false → WP d F_148 19 [.ref 46, .int (nI m), .int x, .ref (50 + m), .int (nI i), .int (nI j), v6] [] (K, netsM I (jpI x m i G j), L, R, n, s) Q := by
        intro rb; induction rb with
        | zero =>
          intro j v6 hib hvb0 hvb1
          have hi2b : j = 25 := by omega
          subst hi2b
          refine wp_iload5 (pc' := 21) rfl rfl ?_
          refine wp_bipush (v := nI 25) (pc' := 23) rfl rfl rfl ?_
          refine wp_icmpgeT rfl (nI_nlt (by omega) (by omega)) ?_
          first | refine wp_iinc4 (w := nI 1) (pc' := 91) rfl rfl rfl (by with_reducible exact nI_add _ _) rfl ?_ | refine wp_iinc4 (w := nI 1) (pc' := 91) rfl rfl rfl rfl rfl ?_
          refine wp_goto rfl ?_
          exact WP.cg (ih (i + 1) _ _ (by omega) (by omega) (by first | rfl | assumption) (by first | rfl | assumption)) (lC1 (lI1 (by rfl) (lI1 (by rfl) (lC1 (lI1 (by rfl) (lC1 (lC1 rfl))))))) rfl (by rw [hsx, jpS]; first | (rw [if_pos (hvb0.resolve_right (by decide))]; done) | (have hj0 : j = 0 := hvb0.resolve_left (fun q => h32 (by rw [q])); subst hj0; rw [if_neg (fun q => h32 (by rw [q])), ← hG2]; rfl))
        | succ rb ihb =>
          intro j v6 hib hvb0 hvb1
          have hltb : j < 25 := by omega
          have hsy : jpI x m i G (j + 1) = up2 (jpI x m i G j) m j (jpV (jpI x m i G j) m x i j) := rfl
          generalize hG2 : jpI x m i G j = G2 at hsy ⊢
          refine wp_iload5 (pc' := 21) rfl rfl ?_
          refine wp_bipush (v := nI 25) (pc' := 23) rfl rfl rfl ?_
          refine wp_icmpgeF (pc' := 26) rfl (nI_lt (by omega) (by omega)) rfl ?_
          refine wp_iload4 (pc' := 28) rfl rfl ?_
          refine wp_iload1 (pc' := 29) rfl rfl ?_
          refine wp_iand (pc' := 30) rfl rfl ?_
          refine wp_iload4 (pc' := 32) rfl rfl ?_
          rw [(and16 ⟨i, by omega⟩ ⟨m, hm⟩).1]
          refine wp_icmpne (pc' := 35) rfl rfl ?_ ?_
          · intro h32
            first | refine wp_iinc4 (w := nI 1) (pc' := 91) rfl rfl rfl (by with_reducible exact nI_add _ _) rfl ?_ | refine wp_iinc4 (w := nI 1) (pc' := 91) rfl rfl rfl rfl rfl ?_
            refine wp_goto rfl ?_
            exact WP.cg (ih (i + 1) _ _ (by omega) (by omega) (by first | rfl | assumption) (by first | rfl | assumption)) (lC1 (lI1 (by rfl) (lI1 (by rfl) (lC1 (lI1 (by rfl) (lC1 (lC1 rfl))))))) rfl (by rw [hsx, jpS]; first | (rw [if_pos (hvb0.resolve_right (by decide))]; done) | (have hj0 : j = 0 := hvb0.resolve_left (fun q => h32 (by rw [q])); subst hj0; rw [if_neg (fun q => h32 (by rw [q])), ← hG2]; rfl))
          · intro h32
            refine wp_aload0 (pc' := 36) rfl rfl ?_
            refine wp_getRF (pc' := 39) rfl rfl (by first | exact TK.k1 hT rfl | exact TK.kk hT rfl | exact TK.r hT rfl | assumption) (by first | exact TK.k1 hT rfl | exact TK.kk hT rfl | exact TK.r hT rfl | assumption) rfl ?_
            refine wp_iload4 (pc' := 41) rfl rfl ?_
            refine wp_rald i (pc' := 42) rfl (TK.kk hT rfl) rfl (by omega) (by decide) (TK.net hT (by omega)) rfl ?_
            refine wp_iload5 (pc' := 44) rfl rfl ?_
            refine wp_iald j (pc' := 45) rfl (TK.netk hT (by omega)) rfl (by omega) (by decide) rfl ?_
            rw [nets_at (by omega)]
            refine wp_aload0 (pc' := 46) rfl rfl ?_
            refine wp_getRF (pc' := 49) rfl rfl (by first | exact TK.k1 hT rfl | exact TK.kk hT rfl | exact TK.r hT rfl | assumption) (by first | exact TK.k1 hT rfl | exact TK.kk hT rfl | exact TK.r hT rfl | assumption) rfl ?_
            refine wp_iload1 (pc' := 50) rfl rfl ?_
            refine wp_iload4 (pc' := 52) rfl rfl ?_
            refine wp_ixor (pc' := 53) rfl rfl ?_
            have hx16 : m ^^^ i < 16 := (and16 ⟨m, hm⟩ ⟨i, by omega⟩).2.2.1
            refine wp_rald (m ^^^ i) (pc' := 54) rfl (TK.kk hT rfl) (and16 ⟨m, hm⟩ ⟨i, by omega⟩).2.1 (by omega) (by decide) (TK.net hT (by omega)) rfl ?_
            refine wp_iload5 (pc' := 56) rfl rfl ?_
            refine wp_iald j (pc' := 57) rfl (TK.netk hT (by omega)) rfl (by omega) (by decide) rfl ?_
            rw [nets_at (by omega)]
            first | refine wp_iaddN (pc' := 58) rfl (by with_reducible rfl) (by with_reducible rfl) rfl ?_ | refine wp_iadd (pc' := 58) rfl rfl ?_
            refine wp_iconst (v := nI 1) (pc' := 59) rfl rfl rfl ?_
            refine wp_iload2 (pc' := 60) rfl rfl ?_
            refine wp_iload5 (pc' := 62) rfl rfl ?_
            refine wp_ishr (pc' := 63) rfl rfl ?_
            refine wp_iconst (v := nI 1) (pc' := 64) rfl rfl rfl ?_
            refine wp_iand (pc' := 65) rfl rfl ?_
            first | refine wp_isubN (pc' := 66) rfl (by with_reducible rfl) (by with_reducible rfl) (by omega) rfl ?_ | refine wp_isub (pc' := 66) rfl rfl ?_
            first | refine wp_isubN (pc' := 67) rfl (by with_reducible rfl) (by with_reducible rfl) (by omega) rfl ?_ | refine wp_isub (pc' := 67) rfl rfl ?_
            refine wp_istore6 (pc' := 69) rfl (by first | rfl | assumption) rfl ?_
            refine wp_aload3 (pc' := 70) rfl rfl ?_
            refine wp_iload5 (pc' := 72) rfl rfl ?_
            refine wp_aload3 (pc' := 73) rfl rfl ?_
            refine wp_iload5 (pc' := 75) rfl rfl ?_
            refine wp_iald j (pc' := 76) rfl (TK.netk hT (by omega)) rfl (by omega) (by decide) rfl ?_
            rw [nets_at (by omega)]
            refine wp_iload6 (pc' := 78) rfl rfl ?_
            refine wp_min (pc' := 81) rfl rfl rfl rfl ?_
            refine wp_iast j (pc' := 82) rfl (TK.netk hT hm) (by omega) rfl (by omega) (by decide) rfl ?_
            rw [nets_up2 hm]
            first | refine wp_iinc5 (w := nI 1) (pc' := 85) rfl rfl rfl (by with_reducible exact nI_add _ _) rfl ?_ | refine wp_iinc5 (w := nI 1) (pc' := 85) rfl rfl rfl rfl rfl ?_
            refine wp_goto rfl ?_
            exact WP.cg (ihb (j + 1) _ (by omega) (Or.inl ((nI_eq (by have := @Nat.and_le_left i m; omega) (by omega)).mp h32)) (by first | rfl | assumption)) (lC1 (lI1 (by rfl) (lI1 (by rfl) (lC1 (lI1 (by rfl) (lI1 (by rfl) (lC1 rfl))))))) rfl (by rw [hsy]; rfl)
      exact WP.cg (lp19 (25 - (0)) (0) _ (by omega) (Or.inr rfl) (by first | rfl | assumption)) (lC1 (lI1 (by rfl) (lI1 (by rfl) (lC1 (lI1 (by rfl) (lI1 (by rfl) (lC1 rfl))))))) rfl (by rfl)
  exact WP.cg (lp10 (m - (1)) (1) _ _ (by omega) (by omega) (by first | rfl | assumption) (by first | rfl | assumption)) (lC1 (lI1 (by rfl) (lI1 (by rfl) (lC1 (lI1 (by rfl) (lC1 (lC1 rfl))))))) rfl (by rfl)
theorem c_fewD {d : Nat} {K : Nat → Nat × Nat} {I : Nat → Nat → Int32} {L : Nat → Nat → Int64} {R : Nat → Nat → Option Nat} {n s : Nat} {Q : Lo → Lm → Prop} {k : Nat} {x : Int32} {N : Mem} {tc : Nat → Nat} (hT : TK K R n) (hk : 1 ≤ k) (hk4 : k ≤ 4) (htc : ∀ j, j < k → I 38 j = nI (tc j)) (htl : ∀ j, j < k → tc j < 25) (kk : Q (.inl (some (.int (netV x tc k N)))) (K, netsM I (fdN x tc k N (2 ^ k - 1)), L, R, n, s)) : Ok (d + 4) 147 [.ref 46, .int x, .ref 38, .int (nI k)] (K, netsM I N, L, R, n, s) Q := by
  obtain ⟨-, -, hn⟩ := id hT
  refine Ok.enter (F := F_147) (ls := [.ref 46, .int x, .ref 38, .int (nI k), lDead, lDead, lDead, lDead]) rfl rfl ?_
  refine wp_iload3 (pc' := 1) rfl rfl ?_
  refine wp_iconst (v := nI 1) (pc' := 2) rfl rfl rfl ?_
  refine wp_icmpltF (pc' := 5) rfl (nI_nlt (by omega) (by omega)) rfl ?_
  refine wp_iload3 (pc' := 6) rfl rfl ?_
  refine wp_iconst (v := nI 4) (pc' := 7) rfl rfl rfl ?_
  refine wp_icmpleT rfl (nI_nlt (by omega) (by omega)) ?_
  refine wp_iconst (v := nI 1) (pc' := 13) rfl rfl rfl ?_
  refine wp_iload3 (pc' := 14) rfl rfl ?_
  refine wp_ishl (pc' := 15) rfl rfl ?_
  rw [shl5a (by omega)]
  refine wp_istore4 (pc' := 17) rfl (by first | rfl | assumption) rfl ?_
  refine wp_iconst (v := nI 1) (pc' := 18) rfl rfl rfl ?_
  refine wp_istore5 (pc' := 20) rfl (by first | rfl | assumption) rfl ?_
  have lp20 : ∀ r (i : Nat) (v6 : Value) (v7 : Value), i + r = 2 ^ k → 1 ≤ i → isL v6 = false → isL v7 = false → WP (d + 3) F_147 20 [.ref 46, .int x, .ref 38, .int (nI k), .int (nI (2 ^ k)), .int (nI i), v6, v7] [] (K, netsM I (fdN x tc k N (i - 1)), L, R, n, s) Q := by
    intro r; induction r with
    | zero =>
      intro i v6 v7 hi hv0 hv1 hv2
      have hi2 : i = 2 ^ k := by omega
      rw [hi2]
      refine wp_iload5 (pc' := 22) rfl rfl ?_
      refine wp_iload4 (pc' := 24) rfl rfl ?_
      refine wp_icmpgeT rfl (nI_nlt (by omega) (by have := pow5 (k := k) (by omega); omega)) ?_
      refine wp_aload0 (pc' := 104) rfl rfl ?_
      have hp5 := pow5 (k := k) (by omega)
      refine wp_getRF (pc' := 107) rfl rfl (by first | exact TK.k1 hT rfl | exact TK.kk hT rfl | exact TK.r hT rfl | assumption) (by first | exact TK.k1 hT rfl | exact TK.kk hT rfl | exact TK.r hT rfl | assumption) rfl ?_
      refine wp_iload4 (pc' := 109) rfl rfl ?_
      refine wp_iconst (v := nI 1) (pc' := 110) rfl rfl rfl ?_
      first | refine wp_isubN (pc' := 111) rfl (by with_reducible rfl) (by with_reducible rfl) (by omega) rfl ?_ | refine wp_isub (pc' := 111) rfl rfl ?_
      refine wp_rald (2 ^ k - 1) (pc' := 112) rfl (TK.kk hT rfl) rfl (by omega) (by decide) (TK.net hT (by omega)) rfl ?_
      refine wp_bipush (v := nI 24) (pc' := 114) rfl rfl rfl ?_
      refine wp_iald 24 (pc' := 115) rfl (TK.netk hT (by omega)) rfl (by decide) (by decide) rfl ?_
      rw [nets_at (by omega)]
      refine wp_iret rfl rfl rfl ?_
      exact Qv kk (by unfold netV; rw [if_neg (by omega)]) rfl
    | succ r ih =>
      intro i v6 v7 hi hv0 hv1 hv2
      have hlt : i < 2 ^ k := by omega
      have hz : i + 1 - 1 = (i - 1) + 1 := by omega
      have hy : 1 + (i - 1) = i := by omega
      have hsx : fdN x tc k N (i + 1 - 1) = fdS x tc k i (fdN x tc k N (i - 1)) := by
        rw [hz]; show fdS x tc k (1 + (i - 1)) _ = _; rw [hy]; rfl
      generalize hG : fdN x tc k N (i - 1) = G at hsx ⊢
      refine wp_iload5 (pc' := 22) rfl rfl ?_
      refine wp_iload4 (pc' := 24) rfl rfl ?_
      refine wp_icmpgeF (pc' := 27) rfl (nI_lt (by omega) (by have := pow5 (k := k) (by omega); omega)) rfl ?_
      have hp5 := pow5 (k := k) (by omega)
      have hm16 : i < 16 := by omega
      refine wp_aload0 (pc' := 28) rfl rfl ?_
      refine wp_getRF (pc' := 31) rfl rfl (by first | exact TK.k1 hT rfl | exact TK.kk hT rfl | exact TK.r hT rfl | assumption) (by first | exact TK.k1 hT rfl | exact TK.kk hT rfl | exact TK.r hT rfl | assumption) rfl ?_
      refine wp_iload5 (pc' := 33) rfl rfl ?_
      refine wp_rald i (pc' := 34) rfl (TK.kk hT rfl) rfl hm16 (by decide) (TK.net hT hm16) rfl ?_
      refine wp_astore6 (pc' := 36) rfl (by first | rfl | assumption) rfl ?_
      refine wp_aload6 (pc' := 38) rfl rfl ?_
      refine wp_pool (v := .int (nI 1000000)) (pc' := 40) rfl rfl rfl rfl rfl ?_
      refine wp_callS2 (pc' := 43) rfl rfl rfl rfl rfl rfl ?_
      refine c_fill (w := 25) (TK.netk hT hm16) (by decide) (by omega) ?_
      refine Cont.u ?_
      rw [nets_at hm16, nets_upr hm16]
      refine wp_iconst (v := nI 0) (pc' := 44) rfl rfl rfl ?_
      refine wp_istore7 (pc' := 46) rfl (by first | rfl | assumption) rfl ?_
      have lp46 : ∀ rb (j : Nat), j + rb = k → WP (d + 3) F_147 46 [.ref 46, .int x, .ref 38, .int (nI k), .int (nI (2 ^ k)), .int (nI i), .ref (50 + i), .int (nI j)] [] (K, netsM I (fd1 x tc i (upr G i (fillR 25 (nI 1000000) (G i))) j), L, R, n, s) Q := by
        intro rb; induction rb with
        | zero =>
          intro j hib 
          have hi2b : j = k := by omega
          subst hi2b
          refine wp_iload7 (pc' := 48) rfl rfl ?_
          refine wp_iload3 (pc' := 49) rfl rfl ?_
          refine wp_icmpgeT rfl (nI_nlt (by omega) (by omega)) ?_
          refine wp_aload0 (pc' := 85) rfl rfl ?_
          refine wp_iload5 (pc' := 87) rfl rfl ?_
          refine wp_iload1 (pc' := 88) rfl rfl ?_
          refine wp_callV3 (pc' := 91) rfl rfl rfl rfl rfl (TK.k1 hT rfl) rfl rfl ?_
          refine c_joinParts hT hm16 hv0 ?_
          refine Cont.u ?_
          refine wp_aload6 (pc' := 93) rfl rfl ?_
          refine wp_iload1 (pc' := 94) rfl rfl ?_
          refine wp_callS2 (pc' := 97) rfl rfl rfl rfl rfl rfl ?_
          refine c_growNet (TK.netk hT hm16) (by omega) ?_
          refine Cont.u ?_
          rw [nets_at hm16, nets_upr hm16]
          first | refine wp_iinc5 (w := nI 1) (pc' := 100) rfl rfl rfl (by with_reducible exact nI_add _ _) rfl ?_ | refine wp_iinc5 (w := nI 1) (pc' := 100) rfl rfl rfl rfl rfl ?_
          refine wp_goto rfl ?_
          exact WP.cg (ih (i + 1) _ _ (by omega) (by omega) (by first | rfl | assumption) (by first | rfl | assumption)) (lC1 (lI1 (by rfl) (lC1 (lI1 (by rfl) (lI1 (by rfl) (lI1 (by rfl) (lC1 (lC1 rfl)))))))) rfl (by rw [hsx]; rfl)
        | succ rb ihb =>
          intro j hib 
          have hltb : j < k := by omega
          refine wp_iload7 (pc' := 48) rfl rfl ?_
          refine wp_iload3 (pc' := 49) rfl rfl ?_
          refine wp_icmpgeF (pc' := 52) rfl (nI_lt (by omega) (by omega)) rfl ?_
          refine wp_iload5 (pc' := 54) rfl rfl ?_
          refine wp_iconst (v := nI 1) (pc' := 55) rfl rfl rfl ?_
          refine wp_iload7 (pc' := 57) rfl rfl ?_
          refine wp_ishl (pc' := 58) rfl rfl ?_
          rw [shl5a (by omega)]
          refine wp_icmpne (pc' := 61) rfl rfl ?_ ?_
          · intro h58
            first | refine wp_iinc7 (w := nI 1) (pc' := 81) rfl rfl rfl (by with_reducible exact nI_add _ _) rfl ?_ | refine wp_iinc7 (w := nI 1) (pc' := 81) rfl rfl rfl rfl rfl ?_
            refine wp_goto rfl ?_
            exact WP.cg (ihb (j + 1) (by omega)) (lC1 (lI1 (by rfl) (lC1 (lI1 (by rfl) (lI1 (by rfl) (lI1 (by rfl) (lC1 (lI1 (by rfl) rfl)))))))) rfl (by show _ = (K, netsM I (forN _ _ (j + 1)), L, R, n, s); rw [forN]; first | (rw [if_pos ((nI_eq (by omega) (by have := pow5 (k := j) (by omega); omega)).mp h58)]; rfl) | (rw [if_neg (fun q => h58 (by rw [← q]))]; rfl))
          · intro h58
            refine wp_aload6 (pc' := 63) rfl rfl ?_
            refine wp_aload2 (pc' := 64) rfl rfl ?_
            skip
            refine wp_iload7 (pc' := 66) rfl rfl ?_
            refine wp_iald j (pc' := 67) rfl (TK.kk hT rfl) rfl (by omega) (by decide) rfl ?_
            rw [nets_out (by decide), htc _ (by omega)]
            refine wp_iconst (v := nI 1) (pc' := 68) rfl rfl rfl ?_
            refine wp_iload1 (pc' := 69) rfl rfl ?_
            refine wp_aload2 (pc' := 70) rfl rfl ?_
            refine wp_iload7 (pc' := 72) rfl rfl ?_
            refine wp_iald j (pc' := 73) rfl (TK.kk hT rfl) rfl (by omega) (by decide) rfl ?_
            rw [nets_out (by decide), htc _ (by omega)]
            refine wp_ishr (pc' := 74) rfl rfl ?_
            refine wp_iconst (v := nI 1) (pc' := 75) rfl rfl rfl ?_
            refine wp_iand (pc' := 76) rfl rfl ?_
            first | refine wp_isubN (pc' := 77) rfl (by with_reducible rfl) (by with_reducible rfl) (by omega) rfl ?_ | refine wp_isub (pc' := 77) rfl rfl ?_
            refine wp_iast (tc j) (pc' := 78) rfl (TK.netk hT hm16) (by omega) rfl (htl _ (by omega)) (by decide) rfl ?_
            rw [nets_up2 hm16]
            first | refine wp_iinc7 (w := nI 1) (pc' := 81) rfl rfl rfl (by with_reducible exact nI_add _ _) rfl ?_ | refine wp_iinc7 (w := nI 1) (pc' := 81) rfl rfl rfl rfl rfl ?_
            refine wp_goto rfl ?_
            exact WP.cg (ihb (j + 1) (by omega)) (lC1 (lI1 (by rfl) (lC1 (lI1 (by rfl) (lI1 (by rfl) (lI1 (by rfl) (lC1 (lI1 (by rfl) rfl)))))))) rfl (by show _ = (K, netsM I (forN _ _ (j + 1)), L, R, n, s); rw [forN]; first | (rw [if_pos ((nI_eq (by omega) (by have := pow5 (k := j) (by omega); omega)).mp h58)]; rfl) | (rw [if_neg (fun q => h58 (by rw [← q]))]; rfl))
      exact WP.cg (lp46 (k - (0)) (0) (by omega)) (lC1 (lI1 (by rfl) (lC1 (lI1 (by rfl) (lI1 (by rfl) (lI1 (by rfl) (lC1 (lI1 (by rfl) rfl)))))))) rfl (by rfl)
  exact WP.cg (lp20 (2 ^ k - (1)) (1) _ _ (by have := pow5 (k := k) (by omega); omega) (by decide) (by first | rfl | assumption) (by first | rfl | assumption)) (lC1 (lI1 (by rfl) (lC1 (lI1 (by rfl) (lI1 (by rfl) (lI1 (by rfl) (lC1 (lC1 rfl)))))))) rfl (by rfl)
theorem c_fewD0 {d : Nat} {K : Nat → Nat × Nat} {I : Nat → Nat → Int32} {L : Nat → Nat → Int64} {R : Nat → Nat → Option Nat} {n s : Nat} {Q : Lo → Lm → Prop} {x : Int32} (hT : TK K R n) (kk : Q (.inl (some (.int (nI 0)))) (K, I, L, R, n, s)) : Ok (d + 1) 147 [.ref 46, .int x, .ref 38, .int (nI 0)] (K, I, L, R, n, s) Q := by
  obtain ⟨-, -, hn⟩ := id hT
  refine Ok.enter (F := F_147) (ls := [.ref 46, .int x, .ref 38, .int (nI 0), lDead, lDead, lDead, lDead]) rfl rfl ?_
  refine wp_iload3 (pc' := 1) rfl rfl ?_
  refine wp_iconst (v := nI 1) (pc' := 2) rfl rfl rfl ?_
  refine wp_icmpltT rfl (by decide) ?_
  refine wp_iconst (v := nI 0) (pc' := 11) rfl rfl rfl ?_
  refine wp_iret rfl rfl rfl ?_
  exact kk
