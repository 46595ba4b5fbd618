/-! what the tape tells -/
theorem netB_4 {tv : Nat → Nat} {T : Nat} : ∀ {i : Nat}, netB tv T i = true → T ≤ 4
  | 0, h => of_decide_eq_true h
  | i + 1, h => netB_4 (i := i) (by
    have : (netB tv T i && decide (tv i < 25)) = true := h
    exact (Bool.and_eq_true_iff.mp this).1)
theorem netB_lt {tv : Nat → Nat} {T : Nat} : ∀ {i : Nat}, netB tv T i = true → ∀ j, j < i → tv j < 25
  | 0, _, j, hj => absurd hj (by omega)
  | i + 1, h, j, hj => by
    have h2 : (netB tv T i && decide (tv i < 25)) = true := h
    obtain ⟨h3, h4⟩ := Bool.and_eq_true_iff.mp h2
    by_cases e : j = i
    · subst e; exact of_decide_eq_true h4
    · exact netB_lt h3 j (by omega)
theorem trB_40 {u v : Nat} {tv : Nat → Nat} {T : Nat} : ∀ {i : Nat}, trB u v tv T i = true → T ≤ 40 ∧ T % 2 = 0
  | 0, h => by
    obtain ⟨h3, h4⟩ := Bool.and_eq_true_iff.mp h
    exact ⟨of_decide_eq_true h3, of_decide_eq_true h4⟩
  | i + 1, h => trB_40 (i := i) (Bool.and_eq_true_iff.mp h).1
theorem trB_lt {u v : Nat} {tv : Nat → Nat} {T : Nat} : ∀ {i : Nat}, trB u v tv T i = true → ∀ j, j < i → tv j < if j % 2 = 0 then u else v
  | 0, _, j, hj => absurd hj (by omega)
  | i + 1, h, j, hj => by
    obtain ⟨h3, h4⟩ := Bool.and_eq_true_iff.mp h
    by_cases e : j = i
    · subst e; exact of_decide_eq_true h4
    · exact trB_lt h3 j (by omega)
theorem netB_s1 {tv : Nat → Nat} {T i : Nat} (h : netB tv T i = true) (hi : tv i < 256) (h2 : nI (tv i) < nI 25) : nI 1 = if netB tv T (i + 1) = true then nI 1 else nI 0 := by
  rw [if_pos]
  show (netB tv T i && decide (tv i < 25)) = true
  rw [h, decide_eq_true ((nI_ltI (by omega) (by decide)).mp h2)]; rfl
theorem netB_s0 {tv : Nat → Nat} {T i : Nat} (h2 : ¬ nI (tv i) < nI 25) : nI 0 = if netB tv T (i + 1) = true then nI 1 else nI 0 := by
  rw [if_neg]
  show ¬ (netB tv T i && decide (tv i < 25)) = true
  rw [decide_eq_false (fun q => h2 (nI_lt q (by decide))), Bool.and_false]; decide
theorem netB_z1 {tv : Nat → Nat} {T : Nat} (hT : T ≤ 400) (h : ¬ nI 4 < nI T) : nI 1 = if netB tv T 0 = true then nI 1 else nI 0 := by
  rw [if_pos (show netB tv T 0 = true from decide_eq_true (Nat.le_of_not_lt (fun q => h (nI_lt q (by omega)))))]
theorem netB_z0 {tv : Nat → Nat} {T : Nat} (hT : T ≤ 400) (h : nI 4 < nI T) : nI 0 = if netB tv T 0 = true then nI 1 else nI 0 := by
  rw [if_neg (fun q : netB tv T 0 = true => absurd (of_decide_eq_true q) (Nat.not_le_of_gt ((nI_ltI (by decide) (by omega)).mp h)))]
def trU (u v i : Nat) : Nat := if i % 2 = 0 then u else v
theorem trB_s1 {u v : Nat} {tv : Nat → Nat} {T i : Nat} (hu : trU u v i < 1000) (h : trB u v tv T i = true) (hi : tv i < 256) (h2 : nI (tv i) < nI (trU u v i)) : nI 1 = if trB u v tv T (i + 1) = true then nI 1 else nI 0 := by
  rw [if_pos]
  show (trB u v tv T i && decide (tv i < trU u v i)) = true
  rw [h, decide_eq_true ((nI_ltI (by omega) (by omega)).mp h2)]; rfl
theorem trB_s0 {u v : Nat} {tv : Nat → Nat} {T i : Nat} (hu : trU u v i < 1000) (h2 : ¬ nI (tv i) < nI (trU u v i)) : nI 0 = if trB u v tv T (i + 1) = true then nI 1 else nI 0 := by
  rw [if_neg]
  show ¬ (trB u v tv T i && decide (tv i < trU u v i)) = true
  rw [decide_eq_false (fun q => h2 (nI_lt q (by omega))), Bool.and_false]; decide
theorem trU_0 {u v i : Nat} (h : nI (i % 2) = nI 0) : trU u v i = u := by
  unfold trU; rw [if_pos ((nI_eq (by omega) (by decide)).mp h)]
theorem trU_1 {u v i : Nat} (h : ¬ nI (i % 2) = nI 0) : trU u v i = v := by
  unfold trU; rw [if_neg (fun q => h (by rw [q]))]
theorem trB_z1 {u v : Nat} {tv : Nat → Nat} {T : Nat} (hT : T ≤ 400) (h : ¬ nI 40 < nI T) (h2 : nI (T % 2) = nI 0) : nI 1 = if trB u v tv T 0 = true then nI 1 else nI 0 := by
  rw [if_pos]
  show (decide (T ≤ 40) && decide (T % 2 = 0)) = true
  rw [decide_eq_true (Nat.le_of_not_lt (fun q => h (nI_lt q (by omega)))), decide_eq_true ((nI_eq (by omega) (by decide)).mp h2)]; rfl
theorem trB_z0 {u v : Nat} {tv : Nat → Nat} {T : Nat} (hT : T ≤ 400) (h : nI 40 < nI T ∨ ¬ nI (T % 2) = nI 0) : nI 0 = if trB u v tv T 0 = true then nI 1 else nI 0 := by
  rw [if_neg]
  show ¬ (decide (T ≤ 40) && decide (T % 2 = 0)) = true
  intro q
  obtain ⟨q1, q2⟩ := Bool.and_eq_true_iff.mp q
  have q1 := of_decide_eq_true q1
  have q2 := of_decide_eq_true q2
  rcases h with h | h
  · have := (nI_ltI (by decide) (by omega)).mp h; omega
  · exact h (by rw [q2])

theorem c_net0 {d : Nat} {K : Nat → Nat × Nat} {I : Nat → Nat → Int32} {L : Nat → Nat → Int64} {R : Nat → Nat → Option Nat} {n s : Nat} {Q : Lo → Lm → Prop} {T : Nat} {tv : Nat → Nat} (hT : TK K R n) (hf : n + 1 ≤ lmCells) (hs : s + 6 ≤ lmSlots) (hL7 : I 0 7 = nI T) (hT4 : T ≤ 400) (htv : ∀ j, j < 400 → I 38 j = nI (tv j)) (htl : ∀ j, j < 400 → tv j < 256) (hz : T = 0) (kkE : netB tv T T = false → Q (.inr n) (exM 14 (K, up2 I 0 7 (nI 0), L, R, n, s))) (kk : netB tv T T = true → Q (.inl (some (.int (nI 0)))) (K, up2 I 0 7 (nI 0), L, R, n, s)) : Ok (d + 5) 146 [.ref 0] (K, I, L, R, n, s) Q := by
  have hb := TK.s1 hT
  obtain ⟨-, -, hn⟩ := id hT
  refine Ok.enter (F := F_146) (ls := [.ref 0, lDead, lDead, lDead]) rfl rfl ?_
  refine wp_aload0 (pc' := 1) rfl rfl ?_
  refine wp_callV1 (pc' := 4) rfl rfl rfl rfl rfl (by first | exact TK.k1 hT rfl | exact TK.kk hT rfl | exact TK.r hT rfl | assumption) rfl rfl ?_
  refine c_useTape hT ?_
  refine Cont.v ?_
  rw [hL7]
  refine wp_istore1 (pc' := 5) rfl (by first | rfl | assumption) rfl ?_
  refine wp_iload1 (pc' := 6) rfl rfl ?_
  refine wp_iconst (v := nI 4) (pc' := 7) rfl rfl rfl ?_
  refine wp_icmpgt (pc' := 10) rfl rfl ?_ ?_
  · intro h7
    refine wp_iconst (v := nI 0) (pc' := 15) rfl rfl rfl ?_
    refine wp_istore2 (pc' := 16) rfl (by first | rfl | assumption) rfl ?_
    refine wp_iconst (v := nI 0) (pc' := 17) rfl rfl rfl ?_
    refine wp_istore3 (pc' := 18) rfl (by first | rfl | assumption) rfl ?_
    have lp18 : ∀ r (i : Nat), i + r = T → i ≤ T → WP (d + 4) F_146 18 [.ref 0, .int (nI T), .int (if netB tv T i = true then nI 1 else nI 0), .int (nI i)] [] (K, up2 I 0 7 (nI 0), L, R, n, s) Q := by
      intro r; induction r with
      | zero =>
        intro i hi hv0
        have hi2 : i = T := by omega
        rw [hi2]
        refine wp_iload2 (pc' := 19) rfl rfl ?_
        first | refine wp_ifeqB (pc' := 22) rfl rfl ?_ ?_ | refine wp_ifeq (pc' := 22) rfl rfl ?_ ?_
        · intro h19
          refine wp_iload2 (pc' := 51) rfl rfl ?_
          first | refine wp_ifneB (pc' := 54) rfl rfl ?_ ?_ | refine wp_ifne (pc' := 54) rfl rfl ?_ ?_
          · intro h51
            have hok : netB tv T T = true := by first | assumption | exact absurd h51 h19
            have hT4b : T ≤ 4 := netB_4 hok
            obtain rfl : T = 0 := hz
            refine wp_aload0 (pc' := 66) rfl rfl ?_
            refine wp_getRF (pc' := 69) rfl rfl (by first | exact TK.k1 hT rfl | exact TK.kk hT rfl | exact TK.r hT rfl | assumption) (by first | exact TK.k1 hT rfl | exact TK.kk hT rfl | exact TK.r hT rfl | assumption) rfl ?_
            refine wp_aload0 (pc' := 70) rfl rfl ?_
            refine wp_getRF (pc' := 73) rfl rfl (by first | exact TK.k1 hT rfl | exact TK.kk hT rfl | exact TK.r hT rfl | assumption) (by first | exact TK.k1 hT rfl | exact TK.kk hT rfl | exact TK.r hT rfl | assumption) rfl ?_
            refine wp_getI (pc' := 76) rfl rfl (by first | exact TK.k1 hT rfl | exact TK.kk hT rfl | exact TK.r hT rfl | assumption) rfl ?_
            refine wp_aload0 (pc' := 77) rfl rfl ?_
            refine wp_getRF (pc' := 80) rfl rfl (by first | exact TK.k1 hT rfl | exact TK.kk hT rfl | exact TK.r hT rfl | assumption) (by first | exact TK.k1 hT rfl | exact TK.kk hT rfl | exact TK.r hT rfl | assumption) rfl ?_
            refine wp_iload1 (pc' := 81) rfl rfl ?_
            refine wp_callV4 (pc' := 84) rfl rfl rfl rfl rfl (TK.k1 hT rfl) rfl rfl ?_
            refine c_fewD0 hT ?_
            refine Cont.v ?_
            refine wp_iret rfl rfl rfl ?_
            exact kk hok
          · intro h51
            refine wp_raise (pc := 54) rfl rfl rfl rfl rfl rfl rfl rfl rfl (by decide) (by decide) (by omega) (by omega) rfl ?_
            exact kkE (by first | exact netB_f h51 (Nat.le_refl _) | exact netB_f h51 (by omega))
        · intro h19
          refine wp_iload3 (pc' := 23) rfl rfl ?_
          refine wp_iload1 (pc' := 24) rfl rfl ?_
          refine wp_icmpgeT rfl (nI_nlt (by omega) (by omega)) ?_
          refine wp_iload2 (pc' := 51) rfl rfl ?_
          first | refine wp_ifneB (pc' := 54) rfl rfl ?_ ?_ | refine wp_ifne (pc' := 54) rfl rfl ?_ ?_
          · intro h51
            have hok : netB tv T T = true := by first | assumption | exact absurd h51 h19
            have hT4b : T ≤ 4 := netB_4 hok
            obtain rfl : T = 0 := hz
            refine wp_aload0 (pc' := 66) rfl rfl ?_
            refine wp_getRF (pc' := 69) rfl rfl (by first | exact TK.k1 hT rfl | exact TK.kk hT rfl | exact TK.r hT rfl | assumption) (by first | exact TK.k1 hT rfl | exact TK.kk hT rfl | exact TK.r hT rfl | assumption) rfl ?_
            refine wp_aload0 (pc' := 70) rfl rfl ?_
            refine wp_getRF (pc' := 73) rfl rfl (by first | exact TK.k1 hT rfl | exact TK.kk hT rfl | exact TK.r hT rfl | assumption) (by first | exact TK.k1 hT rfl | exact TK.kk hT rfl | exact TK.r hT rfl | assumption) rfl ?_
            refine wp_getI (pc' := 76) rfl rfl (by first | exact TK.k1 hT rfl | exact TK.kk hT rfl | exact TK.r hT rfl | assumption) rfl ?_
            refine wp_aload0 (pc' := 77) rfl rfl ?_
            refine wp_getRF (pc' := 80) rfl rfl (by first | exact TK.k1 hT rfl | exact TK.kk hT rfl | exact TK.r hT rfl | assumption) (by first | exact TK.k1 hT rfl | exact TK.kk hT rfl | exact TK.r hT rfl | assumption) rfl ?_
            refine wp_iload1 (pc' := 81) rfl rfl ?_
            refine wp_callV4 (pc' := 84) rfl rfl rfl rfl rfl (TK.k1 hT rfl) rfl rfl ?_
            refine c_fewD0 hT ?_
            refine Cont.v ?_
            refine wp_iret rfl rfl rfl ?_
            exact kk hok
          · intro h51
            refine wp_raise (pc := 54) rfl rfl rfl rfl rfl rfl rfl rfl rfl (by decide) (by decide) (by omega) (by omega) rfl ?_
            exact kkE (by first | exact netB_f h51 (Nat.le_refl _) | exact netB_f h51 (by omega))
      | succ r ih =>
        intro i hi hv0
        have hlt : i < T := by omega
        refine wp_iload2 (pc' := 19) rfl rfl ?_
        first | refine wp_ifeqB (pc' := 22) rfl rfl ?_ ?_ | refine wp_ifeq (pc' := 22) rfl rfl ?_ ?_
        · intro h19
          refine wp_iload2 (pc' := 51) rfl rfl ?_
          first | refine wp_ifneB (pc' := 54) rfl rfl ?_ ?_ | refine wp_ifne (pc' := 54) rfl rfl ?_ ?_
          · intro h51
            have hok : netB tv T T = true := by first | assumption | exact absurd h51 h19
            have hT4b : T ≤ 4 := netB_4 hok
            obtain rfl : T = 0 := hz
            refine wp_aload0 (pc' := 66) rfl rfl ?_
            refine wp_getRF (pc' := 69) rfl rfl (by first | exact TK.k1 hT rfl | exact TK.kk hT rfl | exact TK.r hT rfl | assumption) (by first | exact TK.k1 hT rfl | exact TK.kk hT rfl | exact TK.r hT rfl | assumption) rfl ?_
            refine wp_aload0 (pc' := 70) rfl rfl ?_
            refine wp_getRF (pc' := 73) rfl rfl (by first | exact TK.k1 hT rfl | exact TK.kk hT rfl | exact TK.r hT rfl | assumption) (by first | exact TK.k1 hT rfl | exact TK.kk hT rfl | exact TK.r hT rfl | assumption) rfl ?_
            refine wp_getI (pc' := 76) rfl rfl (by first | exact TK.k1 hT rfl | exact TK.kk hT rfl | exact TK.r hT rfl | assumption) rfl ?_
            refine wp_aload0 (pc' := 77) rfl rfl ?_
            refine wp_getRF (pc' := 80) rfl rfl (by first | exact TK.k1 hT rfl | exact TK.kk hT rfl | exact TK.r hT rfl | assumption) (by first | exact TK.k1 hT rfl | exact TK.kk hT rfl | exact TK.r hT rfl | assumption) rfl ?_
            refine wp_iload1 (pc' := 81) rfl rfl ?_
            refine wp_callV4 (pc' := 84) rfl rfl rfl rfl rfl (TK.k1 hT rfl) rfl rfl ?_
            refine c_fewD0 hT ?_
            refine Cont.v ?_
            refine wp_iret rfl rfl rfl ?_
            exact kk hok
          · intro h51
            refine wp_raise (pc := 54) rfl rfl rfl rfl rfl rfl rfl rfl rfl (by decide) (by decide) (by omega) (by omega) rfl ?_
            exact kkE (by first | exact netB_f h51 (Nat.le_refl _) | exact netB_f h51 (by omega))
        · intro h19
          refine wp_iload3 (pc' := 23) rfl rfl ?_
          refine wp_iload1 (pc' := 24) rfl rfl ?_
          refine wp_icmpgeF (pc' := 27) rfl (nI_lt (by omega) (by omega)) rfl ?_
          refine wp_aload0 (pc' := 28) rfl rfl ?_
          refine wp_getRF (pc' := 31) rfl rfl (by first | exact TK.k1 hT rfl | exact TK.kk hT rfl | exact TK.r hT rfl | assumption) (by first | exact TK.k1 hT rfl | exact TK.kk hT rfl | exact TK.r hT rfl | assumption) rfl ?_
          refine wp_iload3 (pc' := 32) rfl rfl ?_
          refine wp_iald _ (pc' := 33) rfl (by first | exact TK.k1 hT rfl | exact TK.kk hT rfl | exact TK.r hT rfl | assumption) (by with_reducible rfl) (by omega) (by first | decide | assumption | omega) rfl ?_
          rw [up2_row (by decide), htv _ (by omega)]
          refine wp_bipush (v := nI 25) (pc' := 35) rfl rfl rfl ?_
          refine wp_icmpge (pc' := 38) rfl rfl ?_ ?_
          · intro h35
            refine wp_iconst (v := nI 0) (pc' := 43) rfl rfl rfl ?_
            refine wp_istore2 (pc' := 44) rfl (by first | rfl | assumption) rfl ?_
            first | refine wp_iinc3 (w := nI 1) (pc' := 47) rfl rfl rfl (by with_reducible exact nI_add _ _) rfl ?_ | refine wp_iinc3 (w := nI 1) (pc' := 47) rfl rfl rfl rfl rfl ?_
            refine wp_goto rfl ?_
            exact WP.cg (ih (i + 1) (by omega) (by omega)) (lC1 (lI1 (by first | with_reducible rfl | exact netB_s1 h19 (htl i (by omega)) h35 | exact netB_s0 h35) (lI1 (by first | with_reducible rfl | exact netB_s1 h19 (htl i (by omega)) h35 | exact netB_s0 h35) (lI1 (by first | with_reducible rfl | exact netB_s1 h19 (htl i (by omega)) h35 | exact netB_s0 h35) rfl)))) rfl (by first | with_reducible rfl | (simp only [forN, *, ↓reduceIte, not_true_eq_false, not_false_eq_true, and_self, and_true, true_and, and_false, false_and]; done) | rfl | (simp_all [forN]; done))
          · intro h35
            refine wp_iconst (v := nI 1) (pc' := 39) rfl rfl rfl ?_
            refine wp_goto rfl ?_
            refine wp_istore2 (pc' := 44) rfl (by first | rfl | assumption) rfl ?_
            first | refine wp_iinc3 (w := nI 1) (pc' := 47) rfl rfl rfl (by with_reducible exact nI_add _ _) rfl ?_ | refine wp_iinc3 (w := nI 1) (pc' := 47) rfl rfl rfl rfl rfl ?_
            refine wp_goto rfl ?_
            exact WP.cg (ih (i + 1) (by omega) (by omega)) (lC1 (lI1 (by first | with_reducible rfl | exact netB_s1 h19 (htl i (by omega)) h35 | exact netB_s0 h35) (lI1 (by first | with_reducible rfl | exact netB_s1 h19 (htl i (by omega)) h35 | exact netB_s0 h35) (lI1 (by first | with_reducible rfl | exact netB_s1 h19 (htl i (by omega)) h35 | exact netB_s0 h35) rfl)))) rfl (by first | with_reducible rfl | (simp only [forN, *, ↓reduceIte, not_true_eq_false, not_false_eq_true, and_self, and_true, true_and, and_false, false_and]; done) | rfl | (simp_all [forN]; done))
    exact WP.cg (lp18 (T - (0)) (0) (by omega) (by omega)) (lC1 (lI1 (by first | with_reducible rfl | exact netB_z1 hT4 h7 | exact netB_z0 hT4 h7) (lI1 (by first | with_reducible rfl | exact netB_z1 hT4 h7 | exact netB_z0 hT4 h7) (lI1 (by first | with_reducible rfl | exact netB_z1 hT4 h7 | exact netB_z0 hT4 h7) rfl)))) rfl (by first | with_reducible rfl | (simp only [forN, *, ↓reduceIte, not_true_eq_false, not_false_eq_true, and_self, and_true, true_and, and_false, false_and]; done) | rfl | (simp_all [forN]; done))
  · intro h7
    refine wp_iconst (v := nI 1) (pc' := 11) rfl rfl rfl ?_
    refine wp_goto rfl ?_
    refine wp_istore2 (pc' := 16) rfl (by first | rfl | assumption) rfl ?_
    refine wp_iconst (v := nI 0) (pc' := 17) rfl rfl rfl ?_
    refine wp_istore3 (pc' := 18) rfl (by first | rfl | assumption) rfl ?_
    have lp18 : ∀ r (i : Nat), i + r = T → i ≤ T → WP (d + 4) F_146 18 [.ref 0, .int (nI T), .int (if netB tv T i = true then nI 1 else nI 0), .int (nI i)] [] (K, up2 I 0 7 (nI 0), L, R, n, s) Q := by
      intro r; induction r with
      | zero =>
        intro i hi hv0
        have hi2 : i = T := by omega
        rw [hi2]
        refine wp_iload2 (pc' := 19) rfl rfl ?_
        first | refine wp_ifeqB (pc' := 22) rfl rfl ?_ ?_ | refine wp_ifeq (pc' := 22) rfl rfl ?_ ?_
        · intro h19
          refine wp_iload2 (pc' := 51) rfl rfl ?_
          first | refine wp_ifneB (pc' := 54) rfl rfl ?_ ?_ | refine wp_ifne (pc' := 54) rfl rfl ?_ ?_
          · intro h51
            have hok : netB tv T T = true := by first | assumption | exact absurd h51 h19
            have hT4b : T ≤ 4 := netB_4 hok
            obtain rfl : T = 0 := hz
            refine wp_aload0 (pc' := 66) rfl rfl ?_
            refine wp_getRF (pc' := 69) rfl rfl (by first | exact TK.k1 hT rfl | exact TK.kk hT rfl | exact TK.r hT rfl | assumption) (by first | exact TK.k1 hT rfl | exact TK.kk hT rfl | exact TK.r hT rfl | assumption) rfl ?_
            refine wp_aload0 (pc' := 70) rfl rfl ?_
            refine wp_getRF (pc' := 73) rfl rfl (by first | exact TK.k1 hT rfl | exact TK.kk hT rfl | exact TK.r hT rfl | assumption) (by first | exact TK.k1 hT rfl | exact TK.kk hT rfl | exact TK.r hT rfl | assumption) rfl ?_
            refine wp_getI (pc' := 76) rfl rfl (by first | exact TK.k1 hT rfl | exact TK.kk hT rfl | exact TK.r hT rfl | assumption) rfl ?_
            refine wp_aload0 (pc' := 77) rfl rfl ?_
            refine wp_getRF (pc' := 80) rfl rfl (by first | exact TK.k1 hT rfl | exact TK.kk hT rfl | exact TK.r hT rfl | assumption) (by first | exact TK.k1 hT rfl | exact TK.kk hT rfl | exact TK.r hT rfl | assumption) rfl ?_
            refine wp_iload1 (pc' := 81) rfl rfl ?_
            refine wp_callV4 (pc' := 84) rfl rfl rfl rfl rfl (TK.k1 hT rfl) rfl rfl ?_
            refine c_fewD0 hT ?_
            refine Cont.v ?_
            refine wp_iret rfl rfl rfl ?_
            exact kk hok
          · intro h51
            refine wp_raise (pc := 54) rfl rfl rfl rfl rfl rfl rfl rfl rfl (by decide) (by decide) (by omega) (by omega) rfl ?_
            exact kkE (by first | exact netB_f h51 (Nat.le_refl _) | exact netB_f h51 (by omega))
        · intro h19
          refine wp_iload3 (pc' := 23) rfl rfl ?_
          refine wp_iload1 (pc' := 24) rfl rfl ?_
          refine wp_icmpgeT rfl (nI_nlt (by omega) (by omega)) ?_
          refine wp_iload2 (pc' := 51) rfl rfl ?_
          first | refine wp_ifneB (pc' := 54) rfl rfl ?_ ?_ | refine wp_ifne (pc' := 54) rfl rfl ?_ ?_
          · intro h51
            have hok : netB tv T T = true := by first | assumption | exact absurd h51 h19
            have hT4b : T ≤ 4 := netB_4 hok
            obtain rfl : T = 0 := hz
            refine wp_aload0 (pc' := 66) rfl rfl ?_
            refine wp_getRF (pc' := 69) rfl rfl (by first | exact TK.k1 hT rfl | exact TK.kk hT rfl | exact TK.r hT rfl | assumption) (by first | exact TK.k1 hT rfl | exact TK.kk hT rfl | exact TK.r hT rfl | assumption) rfl ?_
            refine wp_aload0 (pc' := 70) rfl rfl ?_
            refine wp_getRF (pc' := 73) rfl rfl (by first | exact TK.k1 hT rfl | exact TK.kk hT rfl | exact TK.r hT rfl | assumption) (by first | exact TK.k1 hT rfl | exact TK.kk hT rfl | exact TK.r hT rfl | assumption) rfl ?_
            refine wp_getI (pc' := 76) rfl rfl (by first | exact TK.k1 hT rfl | exact TK.kk hT rfl | exact TK.r hT rfl | assumption) rfl ?_
            refine wp_aload0 (pc' := 77) rfl rfl ?_
            refine wp_getRF (pc' := 80) rfl rfl (by first | exact TK.k1 hT rfl | exact TK.kk hT rfl | exact TK.r hT rfl | assumption) (by first | exact TK.k1 hT rfl | exact TK.kk hT rfl | exact TK.r hT rfl | assumption) rfl ?_
            refine wp_iload1 (pc' := 81) rfl rfl ?_
            refine wp_callV4 (pc' := 84) rfl rfl rfl rfl rfl (TK.k1 hT rfl) rfl rfl ?_
            refine c_fewD0 hT ?_
            refine Cont.v ?_
            refine wp_iret rfl rfl rfl ?_
            exact kk hok
          · intro h51
            refine wp_raise (pc := 54) rfl rfl rfl rfl rfl rfl rfl rfl rfl (by decide) (by decide) (by omega) (by omega) rfl ?_
            exact kkE (by first | exact netB_f h51 (Nat.le_refl _) | exact netB_f h51 (by omega))
      | succ r ih =>
        intro i hi hv0
        have hlt : i < T := by omega
        refine wp_iload2 (pc' := 19) rfl rfl ?_
        first | refine wp_ifeqB (pc' := 22) rfl rfl ?_ ?_ | refine wp_ifeq (pc' := 22) rfl rfl ?_ ?_
        · intro h19
          refine wp_iload2 (pc' := 51) rfl rfl ?_
          first | refine wp_ifneB (pc' := 54) rfl rfl ?_ ?_ | refine wp_ifne (pc' := 54) rfl rfl ?_ ?_
          · intro h51
            have hok : netB tv T T = true := by first | assumption | exact absurd h51 h19
            have hT4b : T ≤ 4 := netB_4 hok
            obtain rfl : T = 0 := hz
            refine wp_aload0 (pc' := 66) rfl rfl ?_
            refine wp_getRF (pc' := 69) rfl rfl (by first | exact TK.k1 hT rfl | exact TK.kk hT rfl | exact TK.r hT rfl | assumption) (by first | exact TK.k1 hT rfl | exact TK.kk hT rfl | exact TK.r hT rfl | assumption) rfl ?_
            refine wp_aload0 (pc' := 70) rfl rfl ?_
            refine wp_getRF (pc' := 73) rfl rfl (by first | exact TK.k1 hT rfl | exact TK.kk hT rfl | exact TK.r hT rfl | assumption) (by first | exact TK.k1 hT rfl | exact TK.kk hT rfl | exact TK.r hT rfl | assumption) rfl ?_
            refine wp_getI (pc' := 76) rfl rfl (by first | exact TK.k1 hT rfl | exact TK.kk hT rfl | exact TK.r hT rfl | assumption) rfl ?_
            refine wp_aload0 (pc' := 77) rfl rfl ?_
            refine wp_getRF (pc' := 80) rfl rfl (by first | exact TK.k1 hT rfl | exact TK.kk hT rfl | exact TK.r hT rfl | assumption) (by first | exact TK.k1 hT rfl | exact TK.kk hT rfl | exact TK.r hT rfl | assumption) rfl ?_
            refine wp_iload1 (pc' := 81) rfl rfl ?_
            refine wp_callV4 (pc' := 84) rfl rfl rfl rfl rfl (TK.k1 hT rfl) rfl rfl ?_
            refine c_fewD0 hT ?_
            refine Cont.v ?_
            refine wp_iret rfl rfl rfl ?_
            exact kk hok
          · intro h51
            refine wp_raise (pc := 54) rfl rfl rfl rfl rfl rfl rfl rfl rfl (by decide) (by decide) (by omega) (by omega) rfl ?_
            exact kkE (by first | exact netB_f h51 (Nat.le_refl _) | exact netB_f h51 (by omega))
        · intro h19
          refine wp_iload3 (pc' := 23) rfl rfl ?_
          refine wp_iload1 (pc' := 24) rfl rfl ?_
          refine wp_icmpgeF (pc' := 27) rfl (nI_lt (by omega) (by omega)) rfl ?_
          refine wp_aload0 (pc' := 28) rfl rfl ?_
          refine wp_getRF (pc' := 31) rfl rfl (by first | exact TK.k1 hT rfl | exact TK.kk hT rfl | exact TK.r hT rfl | assumption) (by first | exact TK.k1 hT rfl | exact TK.kk hT rfl | exact TK.r hT rfl | assumption) rfl ?_
          refine wp_iload3 (pc' := 32) rfl rfl ?_
          refine wp_iald _ (pc' := 33) rfl (by first | exact TK.k1 hT rfl | exact TK.kk hT rfl | exact TK.r hT rfl | assumption) (by with_reducible rfl) (by omega) (by first | decide | assumption | omega) rfl ?_
          rw [up2_row (by decide), htv _ (by omega)]
          refine wp_bipush (v := nI 25) (pc' := 35) rfl rfl rfl ?_
          refine wp_icmpge (pc' := 38) rfl rfl ?_ ?_
          · intro h35
            refine wp_iconst (v := nI 0) (pc' := 43) rfl rfl rfl ?_
            refine wp_istore2 (pc' := 44) rfl (by first | rfl | assumption) rfl ?_
            first | refine wp_iinc3 (w := nI 1) (pc' := 47) rfl rfl rfl (by with_reducible exact nI_add _ _) rfl ?_ | refine wp_iinc3 (w := nI 1) (pc' := 47) rfl rfl rfl rfl rfl ?_
            refine wp_goto rfl ?_
            exact WP.cg (ih (i + 1) (by omega) (by omega)) (lC1 (lI1 (by first | with_reducible rfl | exact netB_s1 h19 (htl i (by omega)) h35 | exact netB_s0 h35) (lI1 (by first | with_reducible rfl | exact netB_s1 h19 (htl i (by omega)) h35 | exact netB_s0 h35) (lI1 (by first | with_reducible rfl | exact netB_s1 h19 (htl i (by omega)) h35 | exact netB_s0 h35) rfl)))) rfl (by first | with_reducible rfl | (simp only [forN, *, ↓reduceIte, not_true_eq_false, not_false_eq_true, and_self, and_true, true_and, and_false, false_and]; done) | rfl | (simp_all [forN]; done))
          · intro h35
            refine wp_iconst (v := nI 1) (pc' := 39) rfl rfl rfl ?_
            refine wp_goto rfl ?_
            refine wp_istore2 (pc' := 44) rfl (by first | rfl | assumption) rfl ?_
            first | refine wp_iinc3 (w := nI 1) (pc' := 47) rfl rfl rfl (by with_reducible exact nI_add _ _) rfl ?_ | refine wp_iinc3 (w := nI 1) (pc' := 47) rfl rfl rfl rfl rfl ?_
            refine wp_goto rfl ?_
            exact WP.cg (ih (i + 1) (by omega) (by omega)) (lC1 (lI1 (by first | with_reducible rfl | exact netB_s1 h19 (htl i (by omega)) h35 | exact netB_s0 h35) (lI1 (by first | with_reducible rfl | exact netB_s1 h19 (htl i (by omega)) h35 | exact netB_s0 h35) (lI1 (by first | with_reducible rfl | exact netB_s1 h19 (htl i (by omega)) h35 | exact netB_s0 h35) rfl)))) rfl (by first | with_reducible rfl | (simp only [forN, *, ↓reduceIte, not_true_eq_false, not_false_eq_true, and_self, and_true, true_and, and_false, false_and]; done) | rfl | (simp_all [forN]; done))
    exact WP.cg (lp18 (T - (0)) (0) (by omega) (by omega)) (lC1 (lI1 (by first | with_reducible rfl | exact netB_z1 hT4 h7 | exact netB_z0 hT4 h7) (lI1 (by first | with_reducible rfl | exact netB_z1 hT4 h7 | exact netB_z0 hT4 h7) (lI1 (by first | with_reducible rfl | exact netB_z1 hT4 h7 | exact netB_z0 hT4 h7) rfl)))) rfl (by first | with_reducible rfl | (simp only [forN, *, ↓reduceIte, not_true_eq_false, not_false_eq_true, and_self, and_true, true_and, and_false, false_and]; done) | rfl | (simp_all [forN]; done))
theorem c_net1 {d : Nat} {K : Nat → Nat × Nat} {I : Nat → Nat → Int32} {L : Nat → Nat → Int64} {R : Nat → Nat → Option Nat} {n s : Nat} {Q : Lo → Lm → Prop} {T : Nat} {tv : Nat → Nat} (hT : TK K R n) (hf : n + 1 ≤ lmCells) (hs : s + 6 ≤ lmSlots) (hL7 : I 0 7 = nI T) (hT4 : T ≤ 400) (htv : ∀ j, j < 400 → I 38 j = nI (tv j)) (htl : ∀ j, j < 400 → tv j < 256) (hz : 1 ≤ T) (kkE : netB tv T T = false → Q (.inr n) (exM 14 (K, up2 I 0 7 (nI 0), L, R, n, s))) (kk : netB tv T T = true → Q (.inl (some (.int (netV (I 1 11) tv T (fun j => I (50 + j)))))) (K, netsM (up2 I 0 7 (nI 0)) (fdN (I 1 11) tv T (fun j => I (50 + j)) (2 ^ T - 1)), L, R, n, s)) : Ok (d + 5) 146 [.ref 0] (K, I, L, R, n, s) Q := by
  have hb := TK.s1 hT
  obtain ⟨-, -, hn⟩ := id hT
  refine Ok.enter (F := F_146) (ls := [.ref 0, lDead, lDead, lDead]) rfl rfl ?_
  refine wp_aload0 (pc' := 1) rfl rfl ?_
  refine wp_callV1 (pc' := 4) rfl rfl rfl rfl rfl (by first | exact TK.k1 hT rfl | exact TK.kk hT rfl | exact TK.r hT rfl | assumption) rfl rfl ?_
  refine c_useTape hT ?_
  refine Cont.v ?_
  rw [hL7]
  refine wp_istore1 (pc' := 5) rfl (by first | rfl | assumption) rfl ?_
  refine wp_iload1 (pc' := 6) rfl rfl ?_
  refine wp_iconst (v := nI 4) (pc' := 7) rfl rfl rfl ?_
  refine wp_icmpgt (pc' := 10) rfl rfl ?_ ?_
  · intro h7
    refine wp_iconst (v := nI 0) (pc' := 15) rfl rfl rfl ?_
    refine wp_istore2 (pc' := 16) rfl (by first | rfl | assumption) rfl ?_
    refine wp_iconst (v := nI 0) (pc' := 17) rfl rfl rfl ?_
    refine wp_istore3 (pc' := 18) rfl (by first | rfl | assumption) rfl ?_
    have lp18 : ∀ r (i : Nat), i + r = T → i ≤ T → WP (d + 4) F_146 18 [.ref 0, .int (nI T), .int (if netB tv T i = true then nI 1 else nI 0), .int (nI i)] [] (K, up2 I 0 7 (nI 0), L, R, n, s) Q := by
      intro r; induction r with
      | zero =>
        intro i hi hv0
        have hi2 : i = T := by omega
        rw [hi2]
        refine wp_iload2 (pc' := 19) rfl rfl ?_
        first | refine wp_ifeqB (pc' := 22) rfl rfl ?_ ?_ | refine wp_ifeq (pc' := 22) rfl rfl ?_ ?_
        · intro h19
          refine wp_iload2 (pc' := 51) rfl rfl ?_
          first | refine wp_ifneB (pc' := 54) rfl rfl ?_ ?_ | refine wp_ifne (pc' := 54) rfl rfl ?_ ?_
          · intro h51
            have hok : netB tv T T = true := by first | assumption | exact absurd h51 h19
            have hT4b : T ≤ 4 := netB_4 hok
            refine wp_aload0 (pc' := 66) rfl rfl ?_
            refine wp_getRF (pc' := 69) rfl rfl (by first | exact TK.k1 hT rfl | exact TK.kk hT rfl | exact TK.r hT rfl | assumption) (by first | exact TK.k1 hT rfl | exact TK.kk hT rfl | exact TK.r hT rfl | assumption) rfl ?_
            refine wp_aload0 (pc' := 70) rfl rfl ?_
            refine wp_getRF (pc' := 73) rfl rfl (by first | exact TK.k1 hT rfl | exact TK.kk hT rfl | exact TK.r hT rfl | assumption) (by first | exact TK.k1 hT rfl | exact TK.kk hT rfl | exact TK.r hT rfl | assumption) rfl ?_
            refine wp_getI (pc' := 76) rfl rfl (by first | exact TK.k1 hT rfl | exact TK.kk hT rfl | exact TK.r hT rfl | assumption) rfl ?_
            refine wp_aload0 (pc' := 77) rfl rfl ?_
            refine wp_getRF (pc' := 80) rfl rfl (by first | exact TK.k1 hT rfl | exact TK.kk hT rfl | exact TK.r hT rfl | assumption) (by first | exact TK.k1 hT rfl | exact TK.kk hT rfl | exact TK.r hT rfl | assumption) rfl ?_
            refine wp_iload1 (pc' := 81) rfl rfl ?_
            refine wp_callV4 (pc' := 84) rfl rfl rfl rfl rfl (TK.k1 hT rfl) rfl rfl ?_
            rw [show up2 I 0 7 (nI 0) = netsM (up2 I 0 7 (nI 0)) (fun j => I (50 + j)) by rw [show (fun j => I (50 + j)) = (fun j => (up2 I 0 7 (nI 0)) (50 + j)) from by funext j; rw [up2_row (by omega)], nets_id]]
            refine c_fewD hT hz hT4b (fun j hj => by rw [up2_row (by decide)]; exact htv j (by omega)) (netB_lt hok) ?_
            refine Cont.v ?_
            refine wp_iret rfl rfl rfl ?_
            exact kk hok
          · intro h51
            refine wp_raise (pc := 54) rfl rfl rfl rfl rfl rfl rfl rfl rfl (by decide) (by decide) (by omega) (by omega) rfl ?_
            exact kkE (by first | exact netB_f h51 (Nat.le_refl _) | exact netB_f h51 (by omega))
        · intro h19
          refine wp_iload3 (pc' := 23) rfl rfl ?_
          refine wp_iload1 (pc' := 24) rfl rfl ?_
          refine wp_icmpgeT rfl (nI_nlt (by omega) (by omega)) ?_
          refine wp_iload2 (pc' := 51) rfl rfl ?_
          first | refine wp_ifneB (pc' := 54) rfl rfl ?_ ?_ | refine wp_ifne (pc' := 54) rfl rfl ?_ ?_
          · intro h51
            have hok : netB tv T T = true := by first | assumption | exact absurd h51 h19
            have hT4b : T ≤ 4 := netB_4 hok
            refine wp_aload0 (pc' := 66) rfl rfl ?_
            refine wp_getRF (pc' := 69) rfl rfl (by first | exact TK.k1 hT rfl | exact TK.kk hT rfl | exact TK.r hT rfl | assumption) (by first | exact TK.k1 hT rfl | exact TK.kk hT rfl | exact TK.r hT rfl | assumption) rfl ?_
            refine wp_aload0 (pc' := 70) rfl rfl ?_
            refine wp_getRF (pc' := 73) rfl rfl (by first | exact TK.k1 hT rfl | exact TK.kk hT rfl | exact TK.r hT rfl | assumption) (by first | exact TK.k1 hT rfl | exact TK.kk hT rfl | exact TK.r hT rfl | assumption) rfl ?_
            refine wp_getI (pc' := 76) rfl rfl (by first | exact TK.k1 hT rfl | exact TK.kk hT rfl | exact TK.r hT rfl | assumption) rfl ?_
            refine wp_aload0 (pc' := 77) rfl rfl ?_
            refine wp_getRF (pc' := 80) rfl rfl (by first | exact TK.k1 hT rfl | exact TK.kk hT rfl | exact TK.r hT rfl | assumption) (by first | exact TK.k1 hT rfl | exact TK.kk hT rfl | exact TK.r hT rfl | assumption) rfl ?_
            refine wp_iload1 (pc' := 81) rfl rfl ?_
            refine wp_callV4 (pc' := 84) rfl rfl rfl rfl rfl (TK.k1 hT rfl) rfl rfl ?_
            rw [show up2 I 0 7 (nI 0) = netsM (up2 I 0 7 (nI 0)) (fun j => I (50 + j)) by rw [show (fun j => I (50 + j)) = (fun j => (up2 I 0 7 (nI 0)) (50 + j)) from by funext j; rw [up2_row (by omega)], nets_id]]
            refine c_fewD hT hz hT4b (fun j hj => by rw [up2_row (by decide)]; exact htv j (by omega)) (netB_lt hok) ?_
            refine Cont.v ?_
            refine wp_iret rfl rfl rfl ?_
            exact kk hok
          · intro h51
            refine wp_raise (pc := 54) rfl rfl rfl rfl rfl rfl rfl rfl rfl (by decide) (by decide) (by omega) (by omega) rfl ?_
            exact kkE (by first | exact netB_f h51 (Nat.le_refl _) | exact netB_f h51 (by omega))
      | succ r ih =>
        intro i hi hv0
        have hlt : i < T := by omega
        refine wp_iload2 (pc' := 19) rfl rfl ?_
        first | refine wp_ifeqB (pc' := 22) rfl rfl ?_ ?_ | refine wp_ifeq (pc' := 22) rfl rfl ?_ ?_
        · intro h19
          refine wp_iload2 (pc' := 51) rfl rfl ?_
          first | refine wp_ifneB (pc' := 54) rfl rfl ?_ ?_ | refine wp_ifne (pc' := 54) rfl rfl ?_ ?_
          · intro h51
            have hok : netB tv T T = true := by first | assumption | exact absurd h51 h19
            have hT4b : T ≤ 4 := netB_4 hok
            refine wp_aload0 (pc' := 66) rfl rfl ?_
            refine wp_getRF (pc' := 69) rfl rfl (by first | exact TK.k1 hT rfl | exact TK.kk hT rfl | exact TK.r hT rfl | assumption) (by first | exact TK.k1 hT rfl | exact TK.kk hT rfl | exact TK.r hT rfl | assumption) rfl ?_
            refine wp_aload0 (pc' := 70) rfl rfl ?_
            refine wp_getRF (pc' := 73) rfl rfl (by first | exact TK.k1 hT rfl | exact TK.kk hT rfl | exact TK.r hT rfl | assumption) (by first | exact TK.k1 hT rfl | exact TK.kk hT rfl | exact TK.r hT rfl | assumption) rfl ?_
            refine wp_getI (pc' := 76) rfl rfl (by first | exact TK.k1 hT rfl | exact TK.kk hT rfl | exact TK.r hT rfl | assumption) rfl ?_
            refine wp_aload0 (pc' := 77) rfl rfl ?_
            refine wp_getRF (pc' := 80) rfl rfl (by first | exact TK.k1 hT rfl | exact TK.kk hT rfl | exact TK.r hT rfl | assumption) (by first | exact TK.k1 hT rfl | exact TK.kk hT rfl | exact TK.r hT rfl | assumption) rfl ?_
            refine wp_iload1 (pc' := 81) rfl rfl ?_
            refine wp_callV4 (pc' := 84) rfl rfl rfl rfl rfl (TK.k1 hT rfl) rfl rfl ?_
            rw [show up2 I 0 7 (nI 0) = netsM (up2 I 0 7 (nI 0)) (fun j => I (50 + j)) by rw [show (fun j => I (50 + j)) = (fun j => (up2 I 0 7 (nI 0)) (50 + j)) from by funext j; rw [up2_row (by omega)], nets_id]]
            refine c_fewD hT hz hT4b (fun j hj => by rw [up2_row (by decide)]; exact htv j (by omega)) (netB_lt hok) ?_
            refine Cont.v ?_
            refine wp_iret rfl rfl rfl ?_
            exact kk hok
          · intro h51
            refine wp_raise (pc := 54) rfl rfl rfl rfl rfl rfl rfl rfl rfl (by decide) (by decide) (by omega) (by omega) rfl ?_
            exact kkE (by first | exact netB_f h51 (Nat.le_refl _) | exact netB_f h51 (by omega))
        · intro h19
          refine wp_iload3 (pc' := 23) rfl rfl ?_
          refine wp_iload1 (pc' := 24) rfl rfl ?_
          refine wp_icmpgeF (pc' := 27) rfl (nI_lt (by omega) (by omega)) rfl ?_
          refine wp_aload0 (pc' := 28) rfl rfl ?_
          refine wp_getRF (pc' := 31) rfl rfl (by first | exact TK.k1 hT rfl | exact TK.kk hT rfl | exact TK.r hT rfl | assumption) (by first | exact TK.k1 hT rfl | exact TK.kk hT rfl | exact TK.r hT rfl | assumption) rfl ?_
          refine wp_iload3 (pc' := 32) rfl rfl ?_
          refine wp_iald _ (pc' := 33) rfl (by first | exact TK.k1 hT rfl | exact TK.kk hT rfl | exact TK.r hT rfl | assumption) (by with_reducible rfl) (by omega) (by first | decide | assumption | omega) rfl ?_
          rw [up2_row (by decide), htv _ (by omega)]
          refine wp_bipush (v := nI 25) (pc' := 35) rfl rfl rfl ?_
          refine wp_icmpge (pc' := 38) rfl rfl ?_ ?_
          · intro h35
            refine wp_iconst (v := nI 0) (pc' := 43) rfl rfl rfl ?_
            refine wp_istore2 (pc' := 44) rfl (by first | rfl | assumption) rfl ?_
            first | refine wp_iinc3 (w := nI 1) (pc' := 47) rfl rfl rfl (by with_reducible exact nI_add _ _) rfl ?_ | refine wp_iinc3 (w := nI 1) (pc' := 47) rfl rfl rfl rfl rfl ?_
            refine wp_goto rfl ?_
            exact WP.cg (ih (i + 1) (by omega) (by omega)) (lC1 (lI1 (by first | with_reducible rfl | exact netB_s1 h19 (htl i (by omega)) h35 | exact netB_s0 h35) (lI1 (by first | with_reducible rfl | exact netB_s1 h19 (htl i (by omega)) h35 | exact netB_s0 h35) (lI1 (by first | with_reducible rfl | exact netB_s1 h19 (htl i (by omega)) h35 | exact netB_s0 h35) rfl)))) rfl (by first | with_reducible rfl | (simp only [forN, *, ↓reduceIte, not_true_eq_false, not_false_eq_true, and_self, and_true, true_and, and_false, false_and]; done) | rfl | (simp_all [forN]; done))
          · intro h35
            refine wp_iconst (v := nI 1) (pc' := 39) rfl rfl rfl ?_
            refine wp_goto rfl ?_
            refine wp_istore2 (pc' := 44) rfl (by first | rfl | assumption) rfl ?_
            first | refine wp_iinc3 (w := nI 1) (pc' := 47) rfl rfl rfl (by with_reducible exact nI_add _ _) rfl ?_ | refine wp_iinc3 (w := nI 1) (pc' := 47) rfl rfl rfl rfl rfl ?_
            refine wp_goto rfl ?_
            exact WP.cg (ih (i + 1) (by omega) (by omega)) (lC1 (lI1 (by first | with_reducible rfl | exact netB_s1 h19 (htl i (by omega)) h35 | exact netB_s0 h35) (lI1 (by first | with_reducible rfl | exact netB_s1 h19 (htl i (by omega)) h35 | exact netB_s0 h35) (lI1 (by first | with_reducible rfl | exact netB_s1 h19 (htl i (by omega)) h35 | exact netB_s0 h35) rfl)))) rfl (by first | with_reducible rfl | (simp only [forN, *, ↓reduceIte, not_true_eq_false, not_false_eq_true, and_self, and_true, true_and, and_false, false_and]; done) | rfl | (simp_all [forN]; done))
    exact WP.cg (lp18 (T - (0)) (0) (by omega) (by omega)) (lC1 (lI1 (by first | with_reducible rfl | exact netB_z1 hT4 h7 | exact netB_z0 hT4 h7) (lI1 (by first | with_reducible rfl | exact netB_z1 hT4 h7 | exact netB_z0 hT4 h7) (lI1 (by first | with_reducible rfl | exact netB_z1 hT4 h7 | exact netB_z0 hT4 h7) rfl)))) rfl (by first | with_reducible rfl | (simp only [forN, *, ↓reduceIte, not_true_eq_false, not_false_eq_true, and_self, and_true, true_and, and_false, false_and]; done) | rfl | (simp_all [forN]; done))
  · intro h7
    refine wp_iconst (v := nI 1) (pc' := 11) rfl rfl rfl ?_
    refine wp_goto rfl ?_
    refine wp_istore2 (pc' := 16) rfl (by first | rfl | assumption) rfl ?_
    refine wp_iconst (v := nI 0) (pc' := 17) rfl rfl rfl ?_
    refine wp_istore3 (pc' := 18) rfl (by first | rfl | assumption) rfl ?_
    have lp18 : ∀ r (i : Nat), i + r = T → i ≤ T → WP (d + 4) F_146 18 [.ref 0, .int (nI T), .int (if netB tv T i = true then nI 1 else nI 0), .int (nI i)] [] (K, up2 I 0 7 (nI 0), L, R, n, s) Q := by
      intro r; induction r with
      | zero =>
        intro i hi hv0
        have hi2 : i = T := by omega
        rw [hi2]
        refine wp_iload2 (pc' := 19) rfl rfl ?_
        first | refine wp_ifeqB (pc' := 22) rfl rfl ?_ ?_ | refine wp_ifeq (pc' := 22) rfl rfl ?_ ?_
        · intro h19
          refine wp_iload2 (pc' := 51) rfl rfl ?_
          first | refine wp_ifneB (pc' := 54) rfl rfl ?_ ?_ | refine wp_ifne (pc' := 54) rfl rfl ?_ ?_
          · intro h51
            have hok : netB tv T T = true := by first | assumption | exact absurd h51 h19
            have hT4b : T ≤ 4 := netB_4 hok
            refine wp_aload0 (pc' := 66) rfl rfl ?_
            refine wp_getRF (pc' := 69) rfl rfl (by first | exact TK.k1 hT rfl | exact TK.kk hT rfl | exact TK.r hT rfl | assumption) (by first | exact TK.k1 hT rfl | exact TK.kk hT rfl | exact TK.r hT rfl | assumption) rfl ?_
            refine wp_aload0 (pc' := 70) rfl rfl ?_
            refine wp_getRF (pc' := 73) rfl rfl (by first | exact TK.k1 hT rfl | exact TK.kk hT rfl | exact TK.r hT rfl | assumption) (by first | exact TK.k1 hT rfl | exact TK.kk hT rfl | exact TK.r hT rfl | assumption) rfl ?_
            refine wp_getI (pc' := 76) rfl rfl (by first | exact TK.k1 hT rfl | exact TK.kk hT rfl | exact TK.r hT rfl | assumption) rfl ?_
            refine wp_aload0 (pc' := 77) rfl rfl ?_
            refine wp_getRF (pc' := 80) rfl rfl (by first | exact TK.k1 hT rfl | exact TK.kk hT rfl | exact TK.r hT rfl | assumption) (by first | exact TK.k1 hT rfl | exact TK.kk hT rfl | exact TK.r hT rfl | assumption) rfl ?_
            refine wp_iload1 (pc' := 81) rfl rfl ?_
            refine wp_callV4 (pc' := 84) rfl rfl rfl rfl rfl (TK.k1 hT rfl) rfl rfl ?_
            rw [show up2 I 0 7 (nI 0) = netsM (up2 I 0 7 (nI 0)) (fun j => I (50 + j)) by rw [show (fun j => I (50 + j)) = (fun j => (up2 I 0 7 (nI 0)) (50 + j)) from by funext j; rw [up2_row (by omega)], nets_id]]
            refine c_fewD hT hz hT4b (fun j hj => by rw [up2_row (by decide)]; exact htv j (by omega)) (netB_lt hok) ?_
            refine Cont.v ?_
            refine wp_iret rfl rfl rfl ?_
            exact kk hok
          · intro h51
            refine wp_raise (pc := 54) rfl rfl rfl rfl rfl rfl rfl rfl rfl (by decide) (by decide) (by omega) (by omega) rfl ?_
            exact kkE (by first | exact netB_f h51 (Nat.le_refl _) | exact netB_f h51 (by omega))
        · intro h19
          refine wp_iload3 (pc' := 23) rfl rfl ?_
          refine wp_iload1 (pc' := 24) rfl rfl ?_
          refine wp_icmpgeT rfl (nI_nlt (by omega) (by omega)) ?_
          refine wp_iload2 (pc' := 51) rfl rfl ?_
          first | refine wp_ifneB (pc' := 54) rfl rfl ?_ ?_ | refine wp_ifne (pc' := 54) rfl rfl ?_ ?_
          · intro h51
            have hok : netB tv T T = true := by first | assumption | exact absurd h51 h19
            have hT4b : T ≤ 4 := netB_4 hok
            refine wp_aload0 (pc' := 66) rfl rfl ?_
            refine wp_getRF (pc' := 69) rfl rfl (by first | exact TK.k1 hT rfl | exact TK.kk hT rfl | exact TK.r hT rfl | assumption) (by first | exact TK.k1 hT rfl | exact TK.kk hT rfl | exact TK.r hT rfl | assumption) rfl ?_
            refine wp_aload0 (pc' := 70) rfl rfl ?_
            refine wp_getRF (pc' := 73) rfl rfl (by first | exact TK.k1 hT rfl | exact TK.kk hT rfl | exact TK.r hT rfl | assumption) (by first | exact TK.k1 hT rfl | exact TK.kk hT rfl | exact TK.r hT rfl | assumption) rfl ?_
            refine wp_getI (pc' := 76) rfl rfl (by first | exact TK.k1 hT rfl | exact TK.kk hT rfl | exact TK.r hT rfl | assumption) rfl ?_
            refine wp_aload0 (pc' := 77) rfl rfl ?_
            refine wp_getRF (pc' := 80) rfl rfl (by first | exact TK.k1 hT rfl | exact TK.kk hT rfl | exact TK.r hT rfl | assumption) (by first | exact TK.k1 hT rfl | exact TK.kk hT rfl | exact TK.r hT rfl | assumption) rfl ?_
            refine wp_iload1 (pc' := 81) rfl rfl ?_
            refine wp_callV4 (pc' := 84) rfl rfl rfl rfl rfl (TK.k1 hT rfl) rfl rfl ?_
            rw [show up2 I 0 7 (nI 0) = netsM (up2 I 0 7 (nI 0)) (fun j => I (50 + j)) by rw [show (fun j => I (50 + j)) = (fun j => (up2 I 0 7 (nI 0)) (50 + j)) from by funext j; rw [up2_row (by omega)], nets_id]]
            refine c_fewD hT hz hT4b (fun j hj => by rw [up2_row (by decide)]; exact htv j (by omega)) (netB_lt hok) ?_
            refine Cont.v ?_
            refine wp_iret rfl rfl rfl ?_
            exact kk hok
          · intro h51
            refine wp_raise (pc := 54) rfl rfl rfl rfl rfl rfl rfl rfl rfl (by decide) (by decide) (by omega) (by omega) rfl ?_
            exact kkE (by first | exact netB_f h51 (Nat.le_refl _) | exact netB_f h51 (by omega))
      | succ r ih =>
        intro i hi hv0
        have hlt : i < T := by omega
        refine wp_iload2 (pc' := 19) rfl rfl ?_
        first | refine wp_ifeqB (pc' := 22) rfl rfl ?_ ?_ | refine wp_ifeq (pc' := 22) rfl rfl ?_ ?_
        · intro h19
          refine wp_iload2 (pc' := 51) rfl rfl ?_
          first | refine wp_ifneB (pc' := 54) rfl rfl ?_ ?_ | refine wp_ifne (pc' := 54) rfl rfl ?_ ?_
          · intro h51
            have hok : netB tv T T = true := by first | assumption | exact absurd h51 h19
            have hT4b : T ≤ 4 := netB_4 hok
            refine wp_aload0 (pc' := 66) rfl rfl ?_
            refine wp_getRF (pc' := 69) rfl rfl (by first | exact TK.k1 hT rfl | exact TK.kk hT rfl | exact TK.r hT rfl | assumption) (by first | exact TK.k1 hT rfl | exact TK.kk hT rfl | exact TK.r hT rfl | assumption) rfl ?_
            refine wp_aload0 (pc' := 70) rfl rfl ?_
            refine wp_getRF (pc' := 73) rfl rfl (by first | exact TK.k1 hT rfl | exact TK.kk hT rfl | exact TK.r hT rfl | assumption) (by first | exact TK.k1 hT rfl | exact TK.kk hT rfl | exact TK.r hT rfl | assumption) rfl ?_
            refine wp_getI (pc' := 76) rfl rfl (by first | exact TK.k1 hT rfl | exact TK.kk hT rfl | exact TK.r hT rfl | assumption) rfl ?_
            refine wp_aload0 (pc' := 77) rfl rfl ?_
            refine wp_getRF (pc' := 80) rfl rfl (by first | exact TK.k1 hT rfl | exact TK.kk hT rfl | exact TK.r hT rfl | assumption) (by first | exact TK.k1 hT rfl | exact TK.kk hT rfl | exact TK.r hT rfl | assumption) rfl ?_
            refine wp_iload1 (pc' := 81) rfl rfl ?_
            refine wp_callV4 (pc' := 84) rfl rfl rfl rfl rfl (TK.k1 hT rfl) rfl rfl ?_
            rw [show up2 I 0 7 (nI 0) = netsM (up2 I 0 7 (nI 0)) (fun j => I (50 + j)) by rw [show (fun j => I (50 + j)) = (fun j => (up2 I 0 7 (nI 0)) (50 + j)) from by funext j; rw [up2_row (by omega)], nets_id]]
            refine c_fewD hT hz hT4b (fun j hj => by rw [up2_row (by decide)]; exact htv j (by omega)) (netB_lt hok) ?_
            refine Cont.v ?_
            refine wp_iret rfl rfl rfl ?_
            exact kk hok
          · intro h51
            refine wp_raise (pc := 54) rfl rfl rfl rfl rfl rfl rfl rfl rfl (by decide) (by decide) (by omega) (by omega) rfl ?_
            exact kkE (by first | exact netB_f h51 (Nat.le_refl _) | exact netB_f h51 (by omega))
        · intro h19
          refine wp_iload3 (pc' := 23) rfl rfl ?_
          refine wp_iload1 (pc' := 24) rfl rfl ?_
          refine wp_icmpgeF (pc' := 27) rfl (nI_lt (by omega) (by omega)) rfl ?_
          refine wp_aload0 (pc' := 28) rfl rfl ?_
          refine wp_getRF (pc' := 31) rfl rfl (by first | exact TK.k1 hT rfl | exact TK.kk hT rfl | exact TK.r hT rfl | assumption) (by first | exact TK.k1 hT rfl | exact TK.kk hT rfl | exact TK.r hT rfl | assumption) rfl ?_
          refine wp_iload3 (pc' := 32) rfl rfl ?_
          refine wp_iald _ (pc' := 33) rfl (by first | exact TK.k1 hT rfl | exact TK.kk hT rfl | exact TK.r hT rfl | assumption) (by with_reducible rfl) (by omega) (by first | decide | assumption | omega) rfl ?_
          rw [up2_row (by decide), htv _ (by omega)]
          refine wp_bipush (v := nI 25) (pc' := 35) rfl rfl rfl ?_
          refine wp_icmpge (pc' := 38) rfl rfl ?_ ?_
          · intro h35
            refine wp_iconst (v := nI 0) (pc' := 43) rfl rfl rfl ?_
            refine wp_istore2 (pc' := 44) rfl (by first | rfl | assumption) rfl ?_
            first | refine wp_iinc3 (w := nI 1) (pc' := 47) rfl rfl rfl (by with_reducible exact nI_add _ _) rfl ?_ | refine wp_iinc3 (w := nI 1) (pc' := 47) rfl rfl rfl rfl rfl ?_
            refine wp_goto rfl ?_
            exact WP.cg (ih (i + 1) (by omega) (by omega)) (lC1 (lI1 (by first | with_reducible rfl | exact netB_s1 h19 (htl i (by omega)) h35 | exact netB_s0 h35) (lI1 (by first | with_reducible rfl | exact netB_s1 h19 (htl i (by omega)) h35 | exact netB_s0 h35) (lI1 (by first | with_reducible rfl | exact netB_s1 h19 (htl i (by omega)) h35 | exact netB_s0 h35) rfl)))) rfl (by first | with_reducible rfl | (simp only [forN, *, ↓reduceIte, not_true_eq_false, not_false_eq_true, and_self, and_true, true_and, and_false, false_and]; done) | rfl | (simp_all [forN]; done))
          · intro h35
            refine wp_iconst (v := nI 1) (pc' := 39) rfl rfl rfl ?_
            refine wp_goto rfl ?_
            refine wp_istore2 (pc' := 44) rfl (by first | rfl | assumption) rfl ?_
            first | refine wp_iinc3 (w := nI 1) (pc' := 47) rfl rfl rfl (by with_reducible exact nI_add _ _) rfl ?_ | refine wp_iinc3 (w := nI 1) (pc' := 47) rfl rfl rfl rfl rfl ?_
            refine wp_goto rfl ?_
            exact WP.cg (ih (i + 1) (by omega) (by omega)) (lC1 (lI1 (by first | with_reducible rfl | exact netB_s1 h19 (htl i (by omega)) h35 | exact netB_s0 h35) (lI1 (by first | with_reducible rfl | exact netB_s1 h19 (htl i (by omega)) h35 | exact netB_s0 h35) (lI1 (by first | with_reducible rfl | exact netB_s1 h19 (htl i (by omega)) h35 | exact netB_s0 h35) rfl)))) rfl (by first | with_reducible rfl | (simp only [forN, *, ↓reduceIte, not_true_eq_false, not_false_eq_true, and_self, and_true, true_and, and_false, false_and]; done) | rfl | (simp_all [forN]; done))
    exact WP.cg (lp18 (T - (0)) (0) (by omega) (by omega)) (lC1 (lI1 (by first | with_reducible rfl | exact netB_z1 hT4 h7 | exact netB_z0 hT4 h7) (lI1 (by first | with_reducible rfl | exact netB_z1 hT4 h7 | exact netB_z0 hT4 h7) (lI1 (by first | with_reducible rfl | exact netB_z1 hT4 h7 | exact netB_z0 hT4 h7) rfl)))) rfl (by first | with_reducible rfl | (simp only [forN, *, ↓reduceIte, not_true_eq_false, not_false_eq_true, and_self, and_true, true_and, and_false, false_and]; done) | rfl | (simp_all [forN]; done))
theorem c_toldRows {d : Nat} {K : Nat → Nat × Nat} {I : Nat → Nat → Int32} {L : Nat → Nat → Int64} {R : Nat → Nat → Option Nat} {n s : Nat} {Q : Lo → Lm → Prop} {T u v : Nat} {tv : Nat → Nat} (hT : TK K R n) (hf : n + 1 ≤ lmCells) (hs : s + 6 ≤ lmSlots) (hL7 : I 0 7 = nI T) (hT4 : T ≤ 400) (htv : ∀ j, j < 400 → I 38 j = nI (tv j)) (htl : ∀ j, j < 400 → tv j < 256) (hu1 : u < 1000) (hv1 : v < 1000) (kkE : trB u v tv T T = false → Q (.inr n) (exM 14 (K, up2 I 0 7 (nI 0), L, R, n, s))) (kk : trB u v tv T T = true → Q (.inl (some (.int (nI (T / 2))))) (K, up2 I 0 7 (nI 0), L, R, n, s)) : Ok (d + 2) 152 [.ref 0, .int (nI u), .int (nI v)] (K, I, L, R, n, s) Q := by
  have hb := TK.s1 hT
  obtain ⟨-, -, hn⟩ := id hT
  refine Ok.enter (F := F_152) (ls := [.ref 0, .int (nI u), .int (nI v), lDead, lDead, lDead]) rfl rfl ?_
  refine wp_aload0 (pc' := 1) rfl rfl ?_
  refine wp_callV1 (pc' := 4) rfl rfl rfl rfl rfl (by first | exact TK.k1 hT rfl | exact TK.kk hT rfl | exact TK.r hT rfl | assumption) rfl rfl ?_
  refine c_useTape hT ?_
  refine Cont.v ?_
  rw [hL7]
  refine wp_istore3 (pc' := 5) rfl (by first | rfl | assumption) rfl ?_
  refine wp_iload3 (pc' := 6) rfl rfl ?_
  refine wp_bipush (v := nI 40) (pc' := 8) rfl rfl rfl ?_
  refine wp_icmpgt (pc' := 11) rfl rfl ?_ ?_
  · intro h8
    refine wp_iconst (v := nI 0) (pc' := 22) rfl rfl rfl ?_
    refine wp_istore4 (pc' := 24) rfl (by first | rfl | assumption) rfl ?_
    refine wp_iconst (v := nI 0) (pc' := 25) rfl rfl rfl ?_
    refine wp_istore5 (pc' := 27) rfl (by first | rfl | assumption) rfl ?_
    have lp27 : ∀ r (i : Nat), i + r = T → i ≤ T → WP (d + 1) F_152 27 [.ref 0, .int (nI u), .int (nI v), .int (nI T), .int (if trB u v tv T i = true then nI 1 else nI 0), .int (nI i)] [] (K, up2 I 0 7 (nI 0), L, R, n, s) Q := by
      intro r; induction r with
      | zero =>
        intro i hi hv0
        have hi2 : i = T := by omega
        rw [hi2]
        refine wp_iload4 (pc' := 29) rfl rfl ?_
        first | refine wp_ifeqB (pc' := 32) rfl rfl ?_ ?_ | refine wp_ifeq (pc' := 32) rfl rfl ?_ ?_
        · intro h29
          refine wp_iload4 (pc' := 75) rfl rfl ?_
          first | refine wp_ifneB (pc' := 78) rfl rfl ?_ ?_ | refine wp_ifne (pc' := 78) rfl rfl ?_ ?_
          · intro h75
            have hok : trB u v tv T T = true := by first | assumption | exact absurd h75 h29
            have hok4 := trB_40 hok
            refine wp_iload3 (pc' := 90) rfl rfl ?_
            refine wp_iconst (v := nI 2) (pc' := 91) rfl rfl rfl ?_
            first | refine wp_idivN (pc' := 92) rfl (by with_reducible rfl) (by with_reducible rfl) (by omega) (by omega) (by omega) rfl ?_ | refine wp_idiv (pc' := 92) rfl (by decide) rfl ?_
            refine wp_iret rfl rfl rfl ?_
            exact kk hok
          · intro h75
            refine wp_raise (pc := 78) rfl rfl rfl rfl rfl rfl rfl rfl rfl (by decide) (by decide) (by omega) (by omega) rfl ?_
            exact kkE (by first | exact trB_f h75 (Nat.le_refl _) | exact trB_f h75 (by omega))
        · intro h29
          refine wp_iload5 (pc' := 34) rfl rfl ?_
          refine wp_iload3 (pc' := 35) rfl rfl ?_
          refine wp_icmpgeT rfl (nI_nlt (by omega) (by omega)) ?_
          refine wp_iload4 (pc' := 75) rfl rfl ?_
          first | refine wp_ifneB (pc' := 78) rfl rfl ?_ ?_ | refine wp_ifne (pc' := 78) rfl rfl ?_ ?_
          · intro h75
            have hok : trB u v tv T T = true := by first | assumption | exact absurd h75 h29
            have hok4 := trB_40 hok
            refine wp_iload3 (pc' := 90) rfl rfl ?_
            refine wp_iconst (v := nI 2) (pc' := 91) rfl rfl rfl ?_
            first | refine wp_idivN (pc' := 92) rfl (by with_reducible rfl) (by with_reducible rfl) (by omega) (by omega) (by omega) rfl ?_ | refine wp_idiv (pc' := 92) rfl (by decide) rfl ?_
            refine wp_iret rfl rfl rfl ?_
            exact kk hok
          · intro h75
            refine wp_raise (pc := 78) rfl rfl rfl rfl rfl rfl rfl rfl rfl (by decide) (by decide) (by omega) (by omega) rfl ?_
            exact kkE (by first | exact trB_f h75 (Nat.le_refl _) | exact trB_f h75 (by omega))
      | succ r ih =>
        intro i hi hv0
        have hlt : i < T := by omega
        have hu : trU u v i < 1000 := by unfold trU; split <;> omega
        refine wp_iload4 (pc' := 29) rfl rfl ?_
        first | refine wp_ifeqB (pc' := 32) rfl rfl ?_ ?_ | refine wp_ifeq (pc' := 32) rfl rfl ?_ ?_
        · intro h29
          refine wp_iload4 (pc' := 75) rfl rfl ?_
          first | refine wp_ifneB (pc' := 78) rfl rfl ?_ ?_ | refine wp_ifne (pc' := 78) rfl rfl ?_ ?_
          · intro h75
            have hok : trB u v tv T T = true := by first | assumption | exact absurd h75 h29
            have hok4 := trB_40 hok
            refine wp_iload3 (pc' := 90) rfl rfl ?_
            refine wp_iconst (v := nI 2) (pc' := 91) rfl rfl rfl ?_
            first | refine wp_idivN (pc' := 92) rfl (by with_reducible rfl) (by with_reducible rfl) (by omega) (by omega) (by omega) rfl ?_ | refine wp_idiv (pc' := 92) rfl (by decide) rfl ?_
            refine wp_iret rfl rfl rfl ?_
            exact kk hok
          · intro h75
            refine wp_raise (pc := 78) rfl rfl rfl rfl rfl rfl rfl rfl rfl (by decide) (by decide) (by omega) (by omega) rfl ?_
            exact kkE (by first | exact trB_f h75 (Nat.le_refl _) | exact trB_f h75 (by omega))
        · intro h29
          refine wp_iload5 (pc' := 34) rfl rfl ?_
          refine wp_iload3 (pc' := 35) rfl rfl ?_
          refine wp_icmpgeF (pc' := 38) rfl (nI_lt (by omega) (by omega)) rfl ?_
          refine wp_aload0 (pc' := 39) rfl rfl ?_
          refine wp_getRF (pc' := 42) rfl rfl (by first | exact TK.k1 hT rfl | exact TK.kk hT rfl | exact TK.r hT rfl | assumption) (by first | exact TK.k1 hT rfl | exact TK.kk hT rfl | exact TK.r hT rfl | assumption) rfl ?_
          refine wp_iload5 (pc' := 44) rfl rfl ?_
          refine wp_iald _ (pc' := 45) rfl (by first | exact TK.k1 hT rfl | exact TK.kk hT rfl | exact TK.r hT rfl | assumption) (by with_reducible rfl) (by omega) (by first | decide | assumption | omega) rfl ?_
          rw [up2_row (by decide), htv _ (by omega)]
          refine wp_iload5 (pc' := 47) rfl rfl ?_
          refine wp_iconst (v := nI 2) (pc' := 48) rfl rfl rfl ?_
          first | refine wp_iremN (pc' := 49) rfl (by with_reducible rfl) (by with_reducible rfl) (by omega) (by omega) (by omega) rfl ?_ | refine wp_irem (pc' := 49) rfl (by decide) rfl ?_
          first | refine wp_ifneB (pc' := 52) rfl rfl ?_ ?_ | refine wp_ifne (pc' := 52) rfl rfl ?_ ?_
          · intro h49
            refine wp_iload2 (pc' := 57) rfl rfl ?_
            refine wp_icmpge (pc' := 60) rfl rfl ?_ ?_
            · intro h57
              refine wp_iconst (v := nI 0) (pc' := 65) rfl rfl rfl ?_
              refine wp_istore4 (pc' := 67) rfl (by first | rfl | assumption) rfl ?_
              first | refine wp_iinc5 (w := nI 1) (pc' := 70) rfl rfl rfl (by with_reducible exact nI_add _ _) rfl ?_ | refine wp_iinc5 (w := nI 1) (pc' := 70) rfl rfl rfl rfl rfl ?_
              refine wp_goto rfl ?_
              exact WP.cg (ih (i + 1) (by omega) (by omega)) (lC1 (lI1 (by first | with_reducible rfl | exact trB_s1 hu h29 (htl i (by omega)) (by first | (rw [trU_0 h49]; exact h57) | (rw [trU_1 h49]; exact h57)) | exact trB_s0 hu (by first | (rw [trU_0 h49]; exact h57) | (rw [trU_1 h49]; exact h57))) (lI1 (by first | with_reducible rfl | exact trB_s1 hu h29 (htl i (by omega)) (by first | (rw [trU_0 h49]; exact h57) | (rw [trU_1 h49]; exact h57)) | exact trB_s0 hu (by first | (rw [trU_0 h49]; exact h57) | (rw [trU_1 h49]; exact h57))) (lI1 (by first | with_reducible rfl | exact trB_s1 hu h29 (htl i (by omega)) (by first | (rw [trU_0 h49]; exact h57) | (rw [trU_1 h49]; exact h57)) | exact trB_s0 hu (by first | (rw [trU_0 h49]; exact h57) | (rw [trU_1 h49]; exact h57))) (lI1 (by first | with_reducible rfl | exact trB_s1 hu h29 (htl i (by omega)) (by first | (rw [trU_0 h49]; exact h57) | (rw [trU_1 h49]; exact h57)) | exact trB_s0 hu (by first | (rw [trU_0 h49]; exact h57) | (rw [trU_1 h49]; exact h57))) (lI1 (by first | with_reducible rfl | exact trB_s1 hu h29 (htl i (by omega)) (by first | (rw [trU_0 h49]; exact h57) | (rw [trU_1 h49]; exact h57)) | exact trB_s0 hu (by first | (rw [trU_0 h49]; exact h57) | (rw [trU_1 h49]; exact h57))) rfl)))))) rfl (by first | with_reducible rfl | (simp only [forN, *, ↓reduceIte, not_true_eq_false, not_false_eq_true, and_self, and_true, true_and, and_false, false_and]; done) | rfl | (simp_all [forN]; done))
            · intro h57
              refine wp_iconst (v := nI 1) (pc' := 61) rfl rfl rfl ?_
              refine wp_goto rfl ?_
              refine wp_istore4 (pc' := 67) rfl (by first | rfl | assumption) rfl ?_
              first | refine wp_iinc5 (w := nI 1) (pc' := 70) rfl rfl rfl (by with_reducible exact nI_add _ _) rfl ?_ | refine wp_iinc5 (w := nI 1) (pc' := 70) rfl rfl rfl rfl rfl ?_
              refine wp_goto rfl ?_
              exact WP.cg (ih (i + 1) (by omega) (by omega)) (lC1 (lI1 (by first | with_reducible rfl | exact trB_s1 hu h29 (htl i (by omega)) (by first | (rw [trU_0 h49]; exact h57) | (rw [trU_1 h49]; exact h57)) | exact trB_s0 hu (by first | (rw [trU_0 h49]; exact h57) | (rw [trU_1 h49]; exact h57))) (lI1 (by first | with_reducible rfl | exact trB_s1 hu h29 (htl i (by omega)) (by first | (rw [trU_0 h49]; exact h57) | (rw [trU_1 h49]; exact h57)) | exact trB_s0 hu (by first | (rw [trU_0 h49]; exact h57) | (rw [trU_1 h49]; exact h57))) (lI1 (by first | with_reducible rfl | exact trB_s1 hu h29 (htl i (by omega)) (by first | (rw [trU_0 h49]; exact h57) | (rw [trU_1 h49]; exact h57)) | exact trB_s0 hu (by first | (rw [trU_0 h49]; exact h57) | (rw [trU_1 h49]; exact h57))) (lI1 (by first | with_reducible rfl | exact trB_s1 hu h29 (htl i (by omega)) (by first | (rw [trU_0 h49]; exact h57) | (rw [trU_1 h49]; exact h57)) | exact trB_s0 hu (by first | (rw [trU_0 h49]; exact h57) | (rw [trU_1 h49]; exact h57))) (lI1 (by first | with_reducible rfl | exact trB_s1 hu h29 (htl i (by omega)) (by first | (rw [trU_0 h49]; exact h57) | (rw [trU_1 h49]; exact h57)) | exact trB_s0 hu (by first | (rw [trU_0 h49]; exact h57) | (rw [trU_1 h49]; exact h57))) rfl)))))) rfl (by first | with_reducible rfl | (simp only [forN, *, ↓reduceIte, not_true_eq_false, not_false_eq_true, and_self, and_true, true_and, and_false, false_and]; done) | rfl | (simp_all [forN]; done))
          · intro h49
            refine wp_iload1 (pc' := 53) rfl rfl ?_
            refine wp_goto rfl ?_
            refine wp_icmpge (pc' := 60) rfl rfl ?_ ?_
            · intro h57
              refine wp_iconst (v := nI 0) (pc' := 65) rfl rfl rfl ?_
              refine wp_istore4 (pc' := 67) rfl (by first | rfl | assumption) rfl ?_
              first | refine wp_iinc5 (w := nI 1) (pc' := 70) rfl rfl rfl (by with_reducible exact nI_add _ _) rfl ?_ | refine wp_iinc5 (w := nI 1) (pc' := 70) rfl rfl rfl rfl rfl ?_
              refine wp_goto rfl ?_
              exact WP.cg (ih (i + 1) (by omega) (by omega)) (lC1 (lI1 (by first | with_reducible rfl | exact trB_s1 hu h29 (htl i (by omega)) (by first | (rw [trU_0 h49]; exact h57) | (rw [trU_1 h49]; exact h57)) | exact trB_s0 hu (by first | (rw [trU_0 h49]; exact h57) | (rw [trU_1 h49]; exact h57))) (lI1 (by first | with_reducible rfl | exact trB_s1 hu h29 (htl i (by omega)) (by first | (rw [trU_0 h49]; exact h57) | (rw [trU_1 h49]; exact h57)) | exact trB_s0 hu (by first | (rw [trU_0 h49]; exact h57) | (rw [trU_1 h49]; exact h57))) (lI1 (by first | with_reducible rfl | exact trB_s1 hu h29 (htl i (by omega)) (by first | (rw [trU_0 h49]; exact h57) | (rw [trU_1 h49]; exact h57)) | exact trB_s0 hu (by first | (rw [trU_0 h49]; exact h57) | (rw [trU_1 h49]; exact h57))) (lI1 (by first | with_reducible rfl | exact trB_s1 hu h29 (htl i (by omega)) (by first | (rw [trU_0 h49]; exact h57) | (rw [trU_1 h49]; exact h57)) | exact trB_s0 hu (by first | (rw [trU_0 h49]; exact h57) | (rw [trU_1 h49]; exact h57))) (lI1 (by first | with_reducible rfl | exact trB_s1 hu h29 (htl i (by omega)) (by first | (rw [trU_0 h49]; exact h57) | (rw [trU_1 h49]; exact h57)) | exact trB_s0 hu (by first | (rw [trU_0 h49]; exact h57) | (rw [trU_1 h49]; exact h57))) rfl)))))) rfl (by first | with_reducible rfl | (simp only [forN, *, ↓reduceIte, not_true_eq_false, not_false_eq_true, and_self, and_true, true_and, and_false, false_and]; done) | rfl | (simp_all [forN]; done))
            · intro h57
              refine wp_iconst (v := nI 1) (pc' := 61) rfl rfl rfl ?_
              refine wp_goto rfl ?_
              refine wp_istore4 (pc' := 67) rfl (by first | rfl | assumption) rfl ?_
              first | refine wp_iinc5 (w := nI 1) (pc' := 70) rfl rfl rfl (by with_reducible exact nI_add _ _) rfl ?_ | refine wp_iinc5 (w := nI 1) (pc' := 70) rfl rfl rfl rfl rfl ?_
              refine wp_goto rfl ?_
              exact WP.cg (ih (i + 1) (by omega) (by omega)) (lC1 (lI1 (by first | with_reducible rfl | exact trB_s1 hu h29 (htl i (by omega)) (by first | (rw [trU_0 h49]; exact h57) | (rw [trU_1 h49]; exact h57)) | exact trB_s0 hu (by first | (rw [trU_0 h49]; exact h57) | (rw [trU_1 h49]; exact h57))) (lI1 (by first | with_reducible rfl | exact trB_s1 hu h29 (htl i (by omega)) (by first | (rw [trU_0 h49]; exact h57) | (rw [trU_1 h49]; exact h57)) | exact trB_s0 hu (by first | (rw [trU_0 h49]; exact h57) | (rw [trU_1 h49]; exact h57))) (lI1 (by first | with_reducible rfl | exact trB_s1 hu h29 (htl i (by omega)) (by first | (rw [trU_0 h49]; exact h57) | (rw [trU_1 h49]; exact h57)) | exact trB_s0 hu (by first | (rw [trU_0 h49]; exact h57) | (rw [trU_1 h49]; exact h57))) (lI1 (by first | with_reducible rfl | exact trB_s1 hu h29 (htl i (by omega)) (by first | (rw [trU_0 h49]; exact h57) | (rw [trU_1 h49]; exact h57)) | exact trB_s0 hu (by first | (rw [trU_0 h49]; exact h57) | (rw [trU_1 h49]; exact h57))) (lI1 (by first | with_reducible rfl | exact trB_s1 hu h29 (htl i (by omega)) (by first | (rw [trU_0 h49]; exact h57) | (rw [trU_1 h49]; exact h57)) | exact trB_s0 hu (by first | (rw [trU_0 h49]; exact h57) | (rw [trU_1 h49]; exact h57))) rfl)))))) rfl (by first | with_reducible rfl | (simp only [forN, *, ↓reduceIte, not_true_eq_false, not_false_eq_true, and_self, and_true, true_and, and_false, false_and]; done) | rfl | (simp_all [forN]; done))
    exact WP.cg (lp27 (T - (0)) (0) (by omega) (by omega)) (lC1 (lI1 (by first | with_reducible rfl | exact trB_z1 hT4 h8 h14 | exact trB_z0 hT4 (Or.inl h8) | exact trB_z0 hT4 (Or.inr h14)) (lI1 (by first | with_reducible rfl | exact trB_z1 hT4 h8 h14 | exact trB_z0 hT4 (Or.inl h8) | exact trB_z0 hT4 (Or.inr h14)) (lI1 (by first | with_reducible rfl | exact trB_z1 hT4 h8 h14 | exact trB_z0 hT4 (Or.inl h8) | exact trB_z0 hT4 (Or.inr h14)) (lI1 (by first | with_reducible rfl | exact trB_z1 hT4 h8 h14 | exact trB_z0 hT4 (Or.inl h8) | exact trB_z0 hT4 (Or.inr h14)) (lI1 (by first | with_reducible rfl | exact trB_z1 hT4 h8 h14 | exact trB_z0 hT4 (Or.inl h8) | exact trB_z0 hT4 (Or.inr h14)) rfl)))))) rfl (by first | with_reducible rfl | (simp only [forN, *, ↓reduceIte, not_true_eq_false, not_false_eq_true, and_self, and_true, true_and, and_false, false_and]; done) | rfl | (simp_all [forN]; done))
  · intro h8
    refine wp_iload3 (pc' := 12) rfl rfl ?_
    refine wp_iconst (v := nI 2) (pc' := 13) rfl rfl rfl ?_
    first | refine wp_iremN (pc' := 14) rfl (by with_reducible rfl) (by with_reducible rfl) (by omega) (by omega) (by omega) rfl ?_ | refine wp_irem (pc' := 14) rfl (by decide) rfl ?_
    first | refine wp_ifneB (pc' := 17) rfl rfl ?_ ?_ | refine wp_ifne (pc' := 17) rfl rfl ?_ ?_
    · intro h14
      refine wp_iconst (v := nI 0) (pc' := 22) rfl rfl rfl ?_
      refine wp_istore4 (pc' := 24) rfl (by first | rfl | assumption) rfl ?_
      refine wp_iconst (v := nI 0) (pc' := 25) rfl rfl rfl ?_
      refine wp_istore5 (pc' := 27) rfl (by first | rfl | assumption) rfl ?_
      have lp27 : ∀ r (i : Nat), i + r = T → i ≤ T → WP (d + 1) F_152 27 [.ref 0, .int (nI u), .int (nI v), .int (nI T), .int (if trB u v tv T i = true then nI 1 else nI 0), .int (nI i)] [] (K, up2 I 0 7 (nI 0), L, R, n, s) Q := by
        intro r; induction r with
        | zero =>
          intro i hi hv0
          have hi2 : i = T := by omega
          rw [hi2]
          refine wp_iload4 (pc' := 29) rfl rfl ?_
          first | refine wp_ifeqB (pc' := 32) rfl rfl ?_ ?_ | refine wp_ifeq (pc' := 32) rfl rfl ?_ ?_
          · intro h29
            refine wp_iload4 (pc' := 75) rfl rfl ?_
            first | refine wp_ifneB (pc' := 78) rfl rfl ?_ ?_ | refine wp_ifne (pc' := 78) rfl rfl ?_ ?_
            · intro h75
              have hok : trB u v tv T T = true := by first | assumption | exact absurd h75 h29
              have hok4 := trB_40 hok
              refine wp_iload3 (pc' := 90) rfl rfl ?_
              refine wp_iconst (v := nI 2) (pc' := 91) rfl rfl rfl ?_
              first | refine wp_idivN (pc' := 92) rfl (by with_reducible rfl) (by with_reducible rfl) (by omega) (by omega) (by omega) rfl ?_ | refine wp_idiv (pc' := 92) rfl (by decide) rfl ?_
              refine wp_iret rfl rfl rfl ?_
              exact kk hok
            · intro h75
              refine wp_raise (pc := 78) rfl rfl rfl rfl rfl rfl rfl rfl rfl (by decide) (by decide) (by omega) (by omega) rfl ?_
              exact kkE (by first | exact trB_f h75 (Nat.le_refl _) | exact trB_f h75 (by omega))
          · intro h29
            refine wp_iload5 (pc' := 34) rfl rfl ?_
            refine wp_iload3 (pc' := 35) rfl rfl ?_
            refine wp_icmpgeT rfl (nI_nlt (by omega) (by omega)) ?_
            refine wp_iload4 (pc' := 75) rfl rfl ?_
            first | refine wp_ifneB (pc' := 78) rfl rfl ?_ ?_ | refine wp_ifne (pc' := 78) rfl rfl ?_ ?_
            · intro h75
              have hok : trB u v tv T T = true := by first | assumption | exact absurd h75 h29
              have hok4 := trB_40 hok
              refine wp_iload3 (pc' := 90) rfl rfl ?_
              refine wp_iconst (v := nI 2) (pc' := 91) rfl rfl rfl ?_
              first | refine wp_idivN (pc' := 92) rfl (by with_reducible rfl) (by with_reducible rfl) (by omega) (by omega) (by omega) rfl ?_ | refine wp_idiv (pc' := 92) rfl (by decide) rfl ?_
              refine wp_iret rfl rfl rfl ?_
              exact kk hok
            · intro h75
              refine wp_raise (pc := 78) rfl rfl rfl rfl rfl rfl rfl rfl rfl (by decide) (by decide) (by omega) (by omega) rfl ?_
              exact kkE (by first | exact trB_f h75 (Nat.le_refl _) | exact trB_f h75 (by omega))
        | succ r ih =>
          intro i hi hv0
          have hlt : i < T := by omega
          have hu : trU u v i < 1000 := by unfold trU; split <;> omega
          refine wp_iload4 (pc' := 29) rfl rfl ?_
          first | refine wp_ifeqB (pc' := 32) rfl rfl ?_ ?_ | refine wp_ifeq (pc' := 32) rfl rfl ?_ ?_
          · intro h29
            refine wp_iload4 (pc' := 75) rfl rfl ?_
            first | refine wp_ifneB (pc' := 78) rfl rfl ?_ ?_ | refine wp_ifne (pc' := 78) rfl rfl ?_ ?_
            · intro h75
              have hok : trB u v tv T T = true := by first | assumption | exact absurd h75 h29
              have hok4 := trB_40 hok
              refine wp_iload3 (pc' := 90) rfl rfl ?_
              refine wp_iconst (v := nI 2) (pc' := 91) rfl rfl rfl ?_
              first | refine wp_idivN (pc' := 92) rfl (by with_reducible rfl) (by with_reducible rfl) (by omega) (by omega) (by omega) rfl ?_ | refine wp_idiv (pc' := 92) rfl (by decide) rfl ?_
              refine wp_iret rfl rfl rfl ?_
              exact kk hok
            · intro h75
              refine wp_raise (pc := 78) rfl rfl rfl rfl rfl rfl rfl rfl rfl (by decide) (by decide) (by omega) (by omega) rfl ?_
              exact kkE (by first | exact trB_f h75 (Nat.le_refl _) | exact trB_f h75 (by omega))
          · intro h29
            refine wp_iload5 (pc' := 34) rfl rfl ?_
            refine wp_iload3 (pc' := 35) rfl rfl ?_
            refine wp_icmpgeF (pc' := 38) rfl (nI_lt (by omega) (by omega)) rfl ?_
            refine wp_aload0 (pc' := 39) rfl rfl ?_
            refine wp_getRF (pc' := 42) rfl rfl (by first | exact TK.k1 hT rfl | exact TK.kk hT rfl | exact TK.r hT rfl | assumption) (by first | exact TK.k1 hT rfl | exact TK.kk hT rfl | exact TK.r hT rfl | assumption) rfl ?_
            refine wp_iload5 (pc' := 44) rfl rfl ?_
            refine wp_iald _ (pc' := 45) rfl (by first | exact TK.k1 hT rfl | exact TK.kk hT rfl | exact TK.r hT rfl | assumption) (by with_reducible rfl) (by omega) (by first | decide | assumption | omega) rfl ?_
            rw [up2_row (by decide), htv _ (by omega)]
            refine wp_iload5 (pc' := 47) rfl rfl ?_
            refine wp_iconst (v := nI 2) (pc' := 48) rfl rfl rfl ?_
            first | refine wp_iremN (pc' := 49) rfl (by with_reducible rfl) (by with_reducible rfl) (by omega) (by omega) (by omega) rfl ?_ | refine wp_irem (pc' := 49) rfl (by decide) rfl ?_
            first | refine wp_ifneB (pc' := 52) rfl rfl ?_ ?_ | refine wp_ifne (pc' := 52) rfl rfl ?_ ?_
            · intro h49
              refine wp_iload2 (pc' := 57) rfl rfl ?_
              refine wp_icmpge (pc' := 60) rfl rfl ?_ ?_
              · intro h57
                refine wp_iconst (v := nI 0) (pc' := 65) rfl rfl rfl ?_
                refine wp_istore4 (pc' := 67) rfl (by first | rfl | assumption) rfl ?_
                first | refine wp_iinc5 (w := nI 1) (pc' := 70) rfl rfl rfl (by with_reducible exact nI_add _ _) rfl ?_ | refine wp_iinc5 (w := nI 1) (pc' := 70) rfl rfl rfl rfl rfl ?_
                refine wp_goto rfl ?_
                exact WP.cg (ih (i + 1) (by omega) (by omega)) (lC1 (lI1 (by first | with_reducible rfl | exact trB_s1 hu h29 (htl i (by omega)) (by first | (rw [trU_0 h49]; exact h57) | (rw [trU_1 h49]; exact h57)) | exact trB_s0 hu (by first | (rw [trU_0 h49]; exact h57) | (rw [trU_1 h49]; exact h57))) (lI1 (by first | with_reducible rfl | exact trB_s1 hu h29 (htl i (by omega)) (by first | (rw [trU_0 h49]; exact h57) | (rw [trU_1 h49]; exact h57)) | exact trB_s0 hu (by first | (rw [trU_0 h49]; exact h57) | (rw [trU_1 h49]; exact h57))) (lI1 (by first | with_reducible rfl | exact trB_s1 hu h29 (htl i (by omega)) (by first | (rw [trU_0 h49]; exact h57) | (rw [trU_1 h49]; exact h57)) | exact trB_s0 hu (by first | (rw [trU_0 h49]; exact h57) | (rw [trU_1 h49]; exact h57))) (lI1 (by first | with_reducible rfl | exact trB_s1 hu h29 (htl i (by omega)) (by first | (rw [trU_0 h49]; exact h57) | (rw [trU_1 h49]; exact h57)) | exact trB_s0 hu (by first | (rw [trU_0 h49]; exact h57) | (rw [trU_1 h49]; exact h57))) (lI1 (by first | with_reducible rfl | exact trB_s1 hu h29 (htl i (by omega)) (by first | (rw [trU_0 h49]; exact h57) | (rw [trU_1 h49]; exact h57)) | exact trB_s0 hu (by first | (rw [trU_0 h49]; exact h57) | (rw [trU_1 h49]; exact h57))) rfl)))))) rfl (by first | with_reducible rfl | (simp only [forN, *, ↓reduceIte, not_true_eq_false, not_false_eq_true, and_self, and_true, true_and, and_false, false_and]; done) | rfl | (simp_all [forN]; done))
              · intro h57
                refine wp_iconst (v := nI 1) (pc' := 61) rfl rfl rfl ?_
                refine wp_goto rfl ?_
                refine wp_istore4 (pc' := 67) rfl (by first | rfl | assumption) rfl ?_
                first | refine wp_iinc5 (w := nI 1) (pc' := 70) rfl rfl rfl (by with_reducible exact nI_add _ _) rfl ?_ | refine wp_iinc5 (w := nI 1) (pc' := 70) rfl rfl rfl rfl rfl ?_
                refine wp_goto rfl ?_
                exact WP.cg (ih (i + 1) (by omega) (by omega)) (lC1 (lI1 (by first | with_reducible rfl | exact trB_s1 hu h29 (htl i (by omega)) (by first | (rw [trU_0 h49]; exact h57) | (rw [trU_1 h49]; exact h57)) | exact trB_s0 hu (by first | (rw [trU_0 h49]; exact h57) | (rw [trU_1 h49]; exact h57))) (lI1 (by first | with_reducible rfl | exact trB_s1 hu h29 (htl i (by omega)) (by first | (rw [trU_0 h49]; exact h57) | (rw [trU_1 h49]; exact h57)) | exact trB_s0 hu (by first | (rw [trU_0 h49]; exact h57) | (rw [trU_1 h49]; exact h57))) (lI1 (by first | with_reducible rfl | exact trB_s1 hu h29 (htl i (by omega)) (by first | (rw [trU_0 h49]; exact h57) | (rw [trU_1 h49]; exact h57)) | exact trB_s0 hu (by first | (rw [trU_0 h49]; exact h57) | (rw [trU_1 h49]; exact h57))) (lI1 (by first | with_reducible rfl | exact trB_s1 hu h29 (htl i (by omega)) (by first | (rw [trU_0 h49]; exact h57) | (rw [trU_1 h49]; exact h57)) | exact trB_s0 hu (by first | (rw [trU_0 h49]; exact h57) | (rw [trU_1 h49]; exact h57))) (lI1 (by first | with_reducible rfl | exact trB_s1 hu h29 (htl i (by omega)) (by first | (rw [trU_0 h49]; exact h57) | (rw [trU_1 h49]; exact h57)) | exact trB_s0 hu (by first | (rw [trU_0 h49]; exact h57) | (rw [trU_1 h49]; exact h57))) rfl)))))) rfl (by first | with_reducible rfl | (simp only [forN, *, ↓reduceIte, not_true_eq_false, not_false_eq_true, and_self, and_true, true_and, and_false, false_and]; done) | rfl | (simp_all [forN]; done))
            · intro h49
              refine wp_iload1 (pc' := 53) rfl rfl ?_
              refine wp_goto rfl ?_
              refine wp_icmpge (pc' := 60) rfl rfl ?_ ?_
              · intro h57
                refine wp_iconst (v := nI 0) (pc' := 65) rfl rfl rfl ?_
                refine wp_istore4 (pc' := 67) rfl (by first | rfl | assumption) rfl ?_
                first | refine wp_iinc5 (w := nI 1) (pc' := 70) rfl rfl rfl (by with_reducible exact nI_add _ _) rfl ?_ | refine wp_iinc5 (w := nI 1) (pc' := 70) rfl rfl rfl rfl rfl ?_
                refine wp_goto rfl ?_
                exact WP.cg (ih (i + 1) (by omega) (by omega)) (lC1 (lI1 (by first | with_reducible rfl | exact trB_s1 hu h29 (htl i (by omega)) (by first | (rw [trU_0 h49]; exact h57) | (rw [trU_1 h49]; exact h57)) | exact trB_s0 hu (by first | (rw [trU_0 h49]; exact h57) | (rw [trU_1 h49]; exact h57))) (lI1 (by first | with_reducible rfl | exact trB_s1 hu h29 (htl i (by omega)) (by first | (rw [trU_0 h49]; exact h57) | (rw [trU_1 h49]; exact h57)) | exact trB_s0 hu (by first | (rw [trU_0 h49]; exact h57) | (rw [trU_1 h49]; exact h57))) (lI1 (by first | with_reducible rfl | exact trB_s1 hu h29 (htl i (by omega)) (by first | (rw [trU_0 h49]; exact h57) | (rw [trU_1 h49]; exact h57)) | exact trB_s0 hu (by first | (rw [trU_0 h49]; exact h57) | (rw [trU_1 h49]; exact h57))) (lI1 (by first | with_reducible rfl | exact trB_s1 hu h29 (htl i (by omega)) (by first | (rw [trU_0 h49]; exact h57) | (rw [trU_1 h49]; exact h57)) | exact trB_s0 hu (by first | (rw [trU_0 h49]; exact h57) | (rw [trU_1 h49]; exact h57))) (lI1 (by first | with_reducible rfl | exact trB_s1 hu h29 (htl i (by omega)) (by first | (rw [trU_0 h49]; exact h57) | (rw [trU_1 h49]; exact h57)) | exact trB_s0 hu (by first | (rw [trU_0 h49]; exact h57) | (rw [trU_1 h49]; exact h57))) rfl)))))) rfl (by first | with_reducible rfl | (simp only [forN, *, ↓reduceIte, not_true_eq_false, not_false_eq_true, and_self, and_true, true_and, and_false, false_and]; done) | rfl | (simp_all [forN]; done))
              · intro h57
                refine wp_iconst (v := nI 1) (pc' := 61) rfl rfl rfl ?_
                refine wp_goto rfl ?_
                refine wp_istore4 (pc' := 67) rfl (by first | rfl | assumption) rfl ?_
                first | refine wp_iinc5 (w := nI 1) (pc' := 70) rfl rfl rfl (by with_reducible exact nI_add _ _) rfl ?_ | refine wp_iinc5 (w := nI 1) (pc' := 70) rfl rfl rfl rfl rfl ?_
                refine wp_goto rfl ?_
                exact WP.cg (ih (i + 1) (by omega) (by omega)) (lC1 (lI1 (by first | with_reducible rfl | exact trB_s1 hu h29 (htl i (by omega)) (by first | (rw [trU_0 h49]; exact h57) | (rw [trU_1 h49]; exact h57)) | exact trB_s0 hu (by first | (rw [trU_0 h49]; exact h57) | (rw [trU_1 h49]; exact h57))) (lI1 (by first | with_reducible rfl | exact trB_s1 hu h29 (htl i (by omega)) (by first | (rw [trU_0 h49]; exact h57) | (rw [trU_1 h49]; exact h57)) | exact trB_s0 hu (by first | (rw [trU_0 h49]; exact h57) | (rw [trU_1 h49]; exact h57))) (lI1 (by first | with_reducible rfl | exact trB_s1 hu h29 (htl i (by omega)) (by first | (rw [trU_0 h49]; exact h57) | (rw [trU_1 h49]; exact h57)) | exact trB_s0 hu (by first | (rw [trU_0 h49]; exact h57) | (rw [trU_1 h49]; exact h57))) (lI1 (by first | with_reducible rfl | exact trB_s1 hu h29 (htl i (by omega)) (by first | (rw [trU_0 h49]; exact h57) | (rw [trU_1 h49]; exact h57)) | exact trB_s0 hu (by first | (rw [trU_0 h49]; exact h57) | (rw [trU_1 h49]; exact h57))) (lI1 (by first | with_reducible rfl | exact trB_s1 hu h29 (htl i (by omega)) (by first | (rw [trU_0 h49]; exact h57) | (rw [trU_1 h49]; exact h57)) | exact trB_s0 hu (by first | (rw [trU_0 h49]; exact h57) | (rw [trU_1 h49]; exact h57))) rfl)))))) rfl (by first | with_reducible rfl | (simp only [forN, *, ↓reduceIte, not_true_eq_false, not_false_eq_true, and_self, and_true, true_and, and_false, false_and]; done) | rfl | (simp_all [forN]; done))
      exact WP.cg (lp27 (T - (0)) (0) (by omega) (by omega)) (lC1 (lI1 (by first | with_reducible rfl | exact trB_z1 hT4 h8 h14 | exact trB_z0 hT4 (Or.inl h8) | exact trB_z0 hT4 (Or.inr h14)) (lI1 (by first | with_reducible rfl | exact trB_z1 hT4 h8 h14 | exact trB_z0 hT4 (Or.inl h8) | exact trB_z0 hT4 (Or.inr h14)) (lI1 (by first | with_reducible rfl | exact trB_z1 hT4 h8 h14 | exact trB_z0 hT4 (Or.inl h8) | exact trB_z0 hT4 (Or.inr h14)) (lI1 (by first | with_reducible rfl | exact trB_z1 hT4 h8 h14 | exact trB_z0 hT4 (Or.inl h8) | exact trB_z0 hT4 (Or.inr h14)) (lI1 (by first | with_reducible rfl | exact trB_z1 hT4 h8 h14 | exact trB_z0 hT4 (Or.inl h8) | exact trB_z0 hT4 (Or.inr h14)) rfl)))))) rfl (by first | with_reducible rfl | (simp only [forN, *, ↓reduceIte, not_true_eq_false, not_false_eq_true, and_self, and_true, true_and, and_false, false_and]; done) | rfl | (simp_all [forN]; done))
    · intro h14
      refine wp_iconst (v := nI 1) (pc' := 18) rfl rfl rfl ?_
      refine wp_goto rfl ?_
      refine wp_istore4 (pc' := 24) rfl (by first | rfl | assumption) rfl ?_
      refine wp_iconst (v := nI 0) (pc' := 25) rfl rfl rfl ?_
      refine wp_istore5 (pc' := 27) rfl (by first | rfl | assumption) rfl ?_
      have lp27 : ∀ r (i : Nat), i + r = T → i ≤ T → WP (d + 1) F_152 27 [.ref 0, .int (nI u), .int (nI v), .int (nI T), .int (if trB u v tv T i = true then nI 1 else nI 0), .int (nI i)] [] (K, up2 I 0 7 (nI 0), L, R, n, s) Q := by
        intro r; induction r with
        | zero =>
          intro i hi hv0
          have hi2 : i = T := by omega
          rw [hi2]
          refine wp_iload4 (pc' := 29) rfl rfl ?_
          first | refine wp_ifeqB (pc' := 32) rfl rfl ?_ ?_ | refine wp_ifeq (pc' := 32) rfl rfl ?_ ?_
          · intro h29
            refine wp_iload4 (pc' := 75) rfl rfl ?_
            first | refine wp_ifneB (pc' := 78) rfl rfl ?_ ?_ | refine wp_ifne (pc' := 78) rfl rfl ?_ ?_
            · intro h75
              have hok : trB u v tv T T = true := by first | assumption | exact absurd h75 h29
              have hok4 := trB_40 hok
              refine wp_iload3 (pc' := 90) rfl rfl ?_
              refine wp_iconst (v := nI 2) (pc' := 91) rfl rfl rfl ?_
              first | refine wp_idivN (pc' := 92) rfl (by with_reducible rfl) (by with_reducible rfl) (by omega) (by omega) (by omega) rfl ?_ | refine wp_idiv (pc' := 92) rfl (by decide) rfl ?_
              refine wp_iret rfl rfl rfl ?_
              exact kk hok
            · intro h75
              refine wp_raise (pc := 78) rfl rfl rfl rfl rfl rfl rfl rfl rfl (by decide) (by decide) (by omega) (by omega) rfl ?_
              exact kkE (by first | exact trB_f h75 (Nat.le_refl _) | exact trB_f h75 (by omega))
          · intro h29
            refine wp_iload5 (pc' := 34) rfl rfl ?_
            refine wp_iload3 (pc' := 35) rfl rfl ?_
            refine wp_icmpgeT rfl (nI_nlt (by omega) (by omega)) ?_
            refine wp_iload4 (pc' := 75) rfl rfl ?_
            first | refine wp_ifneB (pc' := 78) rfl rfl ?_ ?_ | refine wp_ifne (pc' := 78) rfl rfl ?_ ?_
            · intro h75
              have hok : trB u v tv T T = true := by first | assumption | exact absurd h75 h29
              have hok4 := trB_40 hok
              refine wp_iload3 (pc' := 90) rfl rfl ?_
              refine wp_iconst (v := nI 2) (pc' := 91) rfl rfl rfl ?_
              first | refine wp_idivN (pc' := 92) rfl (by with_reducible rfl) (by with_reducible rfl) (by omega) (by omega) (by omega) rfl ?_ | refine wp_idiv (pc' := 92) rfl (by decide) rfl ?_
              refine wp_iret rfl rfl rfl ?_
              exact kk hok
            · intro h75
              refine wp_raise (pc := 78) rfl rfl rfl rfl rfl rfl rfl rfl rfl (by decide) (by decide) (by omega) (by omega) rfl ?_
              exact kkE (by first | exact trB_f h75 (Nat.le_refl _) | exact trB_f h75 (by omega))
        | succ r ih =>
          intro i hi hv0
          have hlt : i < T := by omega
          have hu : trU u v i < 1000 := by unfold trU; split <;> omega
          refine wp_iload4 (pc' := 29) rfl rfl ?_
          first | refine wp_ifeqB (pc' := 32) rfl rfl ?_ ?_ | refine wp_ifeq (pc' := 32) rfl rfl ?_ ?_
          · intro h29
            refine wp_iload4 (pc' := 75) rfl rfl ?_
            first | refine wp_ifneB (pc' := 78) rfl rfl ?_ ?_ | refine wp_ifne (pc' := 78) rfl rfl ?_ ?_
            · intro h75
              have hok : trB u v tv T T = true := by first | assumption | exact absurd h75 h29
              have hok4 := trB_40 hok
              refine wp_iload3 (pc' := 90) rfl rfl ?_
              refine wp_iconst (v := nI 2) (pc' := 91) rfl rfl rfl ?_
              first | refine wp_idivN (pc' := 92) rfl (by with_reducible rfl) (by with_reducible rfl) (by omega) (by omega) (by omega) rfl ?_ | refine wp_idiv (pc' := 92) rfl (by decide) rfl ?_
              refine wp_iret rfl rfl rfl ?_
              exact kk hok
            · intro h75
              refine wp_raise (pc := 78) rfl rfl rfl rfl rfl rfl rfl rfl rfl (by decide) (by decide) (by omega) (by omega) rfl ?_
              exact kkE (by first | exact trB_f h75 (Nat.le_refl _) | exact trB_f h75 (by omega))
          · intro h29
            refine wp_iload5 (pc' := 34) rfl rfl ?_
            refine wp_iload3 (pc' := 35) rfl rfl ?_
            refine wp_icmpgeF (pc' := 38) rfl (nI_lt (by omega) (by omega)) rfl ?_
            refine wp_aload0 (pc' := 39) rfl rfl ?_
            refine wp_getRF (pc' := 42) rfl rfl (by first | exact TK.k1 hT rfl | exact TK.kk hT rfl | exact TK.r hT rfl | assumption) (by first | exact TK.k1 hT rfl | exact TK.kk hT rfl | exact TK.r hT rfl | assumption) rfl ?_
            refine wp_iload5 (pc' := 44) rfl rfl ?_
            refine wp_iald _ (pc' := 45) rfl (by first | exact TK.k1 hT rfl | exact TK.kk hT rfl | exact TK.r hT rfl | assumption) (by with_reducible rfl) (by omega) (by first | decide | assumption | omega) rfl ?_
            rw [up2_row (by decide), htv _ (by omega)]
            refine wp_iload5 (pc' := 47) rfl rfl ?_
            refine wp_iconst (v := nI 2) (pc' := 48) rfl rfl rfl ?_
            first | refine wp_iremN (pc' := 49) rfl (by with_reducible rfl) (by with_reducible rfl) (by omega) (by omega) (by omega) rfl ?_ | refine wp_irem (pc' := 49) rfl (by decide) rfl ?_
            first | refine wp_ifneB (pc' := 52) rfl rfl ?_ ?_ | refine wp_ifne (pc' := 52) rfl rfl ?_ ?_
            · intro h49
              refine wp_iload2 (pc' := 57) rfl rfl ?_
              refine wp_icmpge (pc' := 60) rfl rfl ?_ ?_
              · intro h57
                refine wp_iconst (v := nI 0) (pc' := 65) rfl rfl rfl ?_
                refine wp_istore4 (pc' := 67) rfl (by first | rfl | assumption) rfl ?_
                first | refine wp_iinc5 (w := nI 1) (pc' := 70) rfl rfl rfl (by with_reducible exact nI_add _ _) rfl ?_ | refine wp_iinc5 (w := nI 1) (pc' := 70) rfl rfl rfl rfl rfl ?_
                refine wp_goto rfl ?_
                exact WP.cg (ih (i + 1) (by omega) (by omega)) (lC1 (lI1 (by first | with_reducible rfl | exact trB_s1 hu h29 (htl i (by omega)) (by first | (rw [trU_0 h49]; exact h57) | (rw [trU_1 h49]; exact h57)) | exact trB_s0 hu (by first | (rw [trU_0 h49]; exact h57) | (rw [trU_1 h49]; exact h57))) (lI1 (by first | with_reducible rfl | exact trB_s1 hu h29 (htl i (by omega)) (by first | (rw [trU_0 h49]; exact h57) | (rw [trU_1 h49]; exact h57)) | exact trB_s0 hu (by first | (rw [trU_0 h49]; exact h57) | (rw [trU_1 h49]; exact h57))) (lI1 (by first | with_reducible rfl | exact trB_s1 hu h29 (htl i (by omega)) (by first | (rw [trU_0 h49]; exact h57) | (rw [trU_1 h49]; exact h57)) | exact trB_s0 hu (by first | (rw [trU_0 h49]; exact h57) | (rw [trU_1 h49]; exact h57))) (lI1 (by first | with_reducible rfl | exact trB_s1 hu h29 (htl i (by omega)) (by first | (rw [trU_0 h49]; exact h57) | (rw [trU_1 h49]; exact h57)) | exact trB_s0 hu (by first | (rw [trU_0 h49]; exact h57) | (rw [trU_1 h49]; exact h57))) (lI1 (by first | with_reducible rfl | exact trB_s1 hu h29 (htl i (by omega)) (by first | (rw [trU_0 h49]; exact h57) | (rw [trU_1 h49]; exact h57)) | exact trB_s0 hu (by first | (rw [trU_0 h49]; exact h57) | (rw [trU_1 h49]; exact h57))) rfl)))))) rfl (by first | with_reducible rfl | (simp only [forN, *, ↓reduceIte, not_true_eq_false, not_false_eq_true, and_self, and_true, true_and, and_false, false_and]; done) | rfl | (simp_all [forN]; done))
              · intro h57
                refine wp_iconst (v := nI 1) (pc' := 61) rfl rfl rfl ?_
                refine wp_goto rfl ?_
                refine wp_istore4 (pc' := 67) rfl (by first | rfl | assumption) rfl ?_
                first | refine wp_iinc5 (w := nI 1) (pc' := 70) rfl rfl rfl (by with_reducible exact nI_add _ _) rfl ?_ | refine wp_iinc5 (w := nI 1) (pc' := 70) rfl rfl rfl rfl rfl ?_
                refine wp_goto rfl ?_
                exact WP.cg (ih (i + 1) (by omega) (by omega)) (lC1 (lI1 (by first | with_reducible rfl | exact trB_s1 hu h29 (htl i (by omega)) (by first | (rw [trU_0 h49]; exact h57) | (rw [trU_1 h49]; exact h57)) | exact trB_s0 hu (by first | (rw [trU_0 h49]; exact h57) | (rw [trU_1 h49]; exact h57))) (lI1 (by first | with_reducible rfl | exact trB_s1 hu h29 (htl i (by omega)) (by first | (rw [trU_0 h49]; exact h57) | (rw [trU_1 h49]; exact h57)) | exact trB_s0 hu (by first | (rw [trU_0 h49]; exact h57) | (rw [trU_1 h49]; exact h57))) (lI1 (by first | with_reducible rfl | exact trB_s1 hu h29 (htl i (by omega)) (by first | (rw [trU_0 h49]; exact h57) | (rw [trU_1 h49]; exact h57)) | exact trB_s0 hu (by first | (rw [trU_0 h49]; exact h57) | (rw [trU_1 h49]; exact h57))) (lI1 (by first | with_reducible rfl | exact trB_s1 hu h29 (htl i (by omega)) (by first | (rw [trU_0 h49]; exact h57) | (rw [trU_1 h49]; exact h57)) | exact trB_s0 hu (by first | (rw [trU_0 h49]; exact h57) | (rw [trU_1 h49]; exact h57))) (lI1 (by first | with_reducible rfl | exact trB_s1 hu h29 (htl i (by omega)) (by first | (rw [trU_0 h49]; exact h57) | (rw [trU_1 h49]; exact h57)) | exact trB_s0 hu (by first | (rw [trU_0 h49]; exact h57) | (rw [trU_1 h49]; exact h57))) rfl)))))) rfl (by first | with_reducible rfl | (simp only [forN, *, ↓reduceIte, not_true_eq_false, not_false_eq_true, and_self, and_true, true_and, and_false, false_and]; done) | rfl | (simp_all [forN]; done))
            · intro h49
              refine wp_iload1 (pc' := 53) rfl rfl ?_
              refine wp_goto rfl ?_
              refine wp_icmpge (pc' := 60) rfl rfl ?_ ?_
              · intro h57
                refine wp_iconst (v := nI 0) (pc' := 65) rfl rfl rfl ?_
                refine wp_istore4 (pc' := 67) rfl (by first | rfl | assumption) rfl ?_
                first | refine wp_iinc5 (w := nI 1) (pc' := 70) rfl rfl rfl (by with_reducible exact nI_add _ _) rfl ?_ | refine wp_iinc5 (w := nI 1) (pc' := 70) rfl rfl rfl rfl rfl ?_
                refine wp_goto rfl ?_
                exact WP.cg (ih (i + 1) (by omega) (by omega)) (lC1 (lI1 (by first | with_reducible rfl | exact trB_s1 hu h29 (htl i (by omega)) (by first | (rw [trU_0 h49]; exact h57) | (rw [trU_1 h49]; exact h57)) | exact trB_s0 hu (by first | (rw [trU_0 h49]; exact h57) | (rw [trU_1 h49]; exact h57))) (lI1 (by first | with_reducible rfl | exact trB_s1 hu h29 (htl i (by omega)) (by first | (rw [trU_0 h49]; exact h57) | (rw [trU_1 h49]; exact h57)) | exact trB_s0 hu (by first | (rw [trU_0 h49]; exact h57) | (rw [trU_1 h49]; exact h57))) (lI1 (by first | with_reducible rfl | exact trB_s1 hu h29 (htl i (by omega)) (by first | (rw [trU_0 h49]; exact h57) | (rw [trU_1 h49]; exact h57)) | exact trB_s0 hu (by first | (rw [trU_0 h49]; exact h57) | (rw [trU_1 h49]; exact h57))) (lI1 (by first | with_reducible rfl | exact trB_s1 hu h29 (htl i (by omega)) (by first | (rw [trU_0 h49]; exact h57) | (rw [trU_1 h49]; exact h57)) | exact trB_s0 hu (by first | (rw [trU_0 h49]; exact h57) | (rw [trU_1 h49]; exact h57))) (lI1 (by first | with_reducible rfl | exact trB_s1 hu h29 (htl i (by omega)) (by first | (rw [trU_0 h49]; exact h57) | (rw [trU_1 h49]; exact h57)) | exact trB_s0 hu (by first | (rw [trU_0 h49]; exact h57) | (rw [trU_1 h49]; exact h57))) rfl)))))) rfl (by first | with_reducible rfl | (simp only [forN, *, ↓reduceIte, not_true_eq_false, not_false_eq_true, and_self, and_true, true_and, and_false, false_and]; done) | rfl | (simp_all [forN]; done))
              · intro h57
                refine wp_iconst (v := nI 1) (pc' := 61) rfl rfl rfl ?_
                refine wp_goto rfl ?_
                refine wp_istore4 (pc' := 67) rfl (by first | rfl | assumption) rfl ?_
                first | refine wp_iinc5 (w := nI 1) (pc' := 70) rfl rfl rfl (by with_reducible exact nI_add _ _) rfl ?_ | refine wp_iinc5 (w := nI 1) (pc' := 70) rfl rfl rfl rfl rfl ?_
                refine wp_goto rfl ?_
                exact WP.cg (ih (i + 1) (by omega) (by omega)) (lC1 (lI1 (by first | with_reducible rfl | exact trB_s1 hu h29 (htl i (by omega)) (by first | (rw [trU_0 h49]; exact h57) | (rw [trU_1 h49]; exact h57)) | exact trB_s0 hu (by first | (rw [trU_0 h49]; exact h57) | (rw [trU_1 h49]; exact h57))) (lI1 (by first | with_reducible rfl | exact trB_s1 hu h29 (htl i (by omega)) (by first | (rw [trU_0 h49]; exact h57) | (rw [trU_1 h49]; exact h57)) | exact trB_s0 hu (by first | (rw [trU_0 h49]; exact h57) | (rw [trU_1 h49]; exact h57))) (lI1 (by first | with_reducible rfl | exact trB_s1 hu h29 (htl i (by omega)) (by first | (rw [trU_0 h49]; exact h57) | (rw [trU_1 h49]; exact h57)) | exact trB_s0 hu (by first | (rw [trU_0 h49]; exact h57) | (rw [trU_1 h49]; exact h57))) (lI1 (by first | with_reducible rfl | exact trB_s1 hu h29 (htl i (by omega)) (by first | (rw [trU_0 h49]; exact h57) | (rw [trU_1 h49]; exact h57)) | exact trB_s0 hu (by first | (rw [trU_0 h49]; exact h57) | (rw [trU_1 h49]; exact h57))) (lI1 (by first | with_reducible rfl | exact trB_s1 hu h29 (htl i (by omega)) (by first | (rw [trU_0 h49]; exact h57) | (rw [trU_1 h49]; exact h57)) | exact trB_s0 hu (by first | (rw [trU_0 h49]; exact h57) | (rw [trU_1 h49]; exact h57))) rfl)))))) rfl (by first | with_reducible rfl | (simp only [forN, *, ↓reduceIte, not_true_eq_false, not_false_eq_true, and_self, and_true, true_and, and_false, false_and]; done) | rfl | (simp_all [forN]; done))
      exact WP.cg (lp27 (T - (0)) (0) (by omega) (by omega)) (lC1 (lI1 (by first | with_reducible rfl | exact trB_z1 hT4 h8 h14 | exact trB_z0 hT4 (Or.inl h8) | exact trB_z0 hT4 (Or.inr h14)) (lI1 (by first | with_reducible rfl | exact trB_z1 hT4 h8 h14 | exact trB_z0 hT4 (Or.inl h8) | exact trB_z0 hT4 (Or.inr h14)) (lI1 (by first | with_reducible rfl | exact trB_z1 hT4 h8 h14 | exact trB_z0 hT4 (Or.inl h8) | exact trB_z0 hT4 (Or.inr h14)) (lI1 (by first | with_reducible rfl | exact trB_z1 hT4 h8 h14 | exact trB_z0 hT4 (Or.inl h8) | exact trB_z0 hT4 (Or.inr h14)) (lI1 (by first | with_reducible rfl | exact trB_z1 hT4 h8 h14 | exact trB_z0 hT4 (Or.inl h8) | exact trB_z0 hT4 (Or.inr h14)) rfl)))))) rfl (by first | with_reducible rfl | (simp only [forN, *, ↓reduceIte, not_true_eq_false, not_false_eq_true, and_self, and_true, true_and, and_false, false_and]; done) | rfl | (simp_all [forN]; done))
