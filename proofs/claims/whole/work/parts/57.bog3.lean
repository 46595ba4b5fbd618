/-! bog() -/
theorem nI_surj (x : Int32) : ∃ p, x = nI p := by
  refine ⟨x.toUInt32.toNat, ?_⟩
  apply Int32.toBitVec_inj.mp
  show x.toBitVec = BitVec.ofNat 32 x.toUInt32.toNat
  apply BitVec.eq_of_toNat_eq
  rw [BitVec.toNat_ofNat]
  show x.toBitVec.toNat = x.toUInt32.toNat % 2 ^ 32
  rw [Nat.mod_eq_of_lt (UInt32.toNat_lt _)]; rfl
theorem rd_self {I : Mem} {p : Nat} (h : I 39 2 = nI p) : rdM I p = I := by
  funext a j; unfold rdM up2
  by_cases e : a = 39 ∧ j = 2
  · rw [if_pos e, e.1, e.2, h]
  · rw [if_neg e]
def B0 (I : Mem) (T : Nat) : Mem := up2 (up2 I 0 7 (nI 0)) 39 1 (nI T)
theorem B0_rd {I : Mem} {T : Nat} {tv : Nat → Nat} (hT4 : T ≤ 400) (htv : ∀ j, j < 400 → I 38 j = nI (tv j)) (htl : ∀ j, j < 400 → tv j < 256) : RdI (B0 I T) T tv :=
  ⟨up2_hit, hT4, fun j hj => by unfold B0; rw [up2_row (by decide), up2_row (by decide)]; exact htv j hj, htl⟩
theorem B0_o {I : Mem} {T a : Nat} (h0 : a ≠ 0) (h1 : a ≠ 39) : B0 I T a = I a := by unfold B0; rw [up2_row h1, up2_row h0]
theorem cpS_rd {I : Mem} {p : Nat} : cpS (rdM I p) 13 1 = rdM (cpS I 13 1) p := by
  funext a
  by_cases h : 13 ≤ a ∧ a < 13 + 12
  · unfold cpS; rw [if_pos h, rdM_o (by omega), rdM_o (by omega), if_pos h]
  · rw [cpS_out (by omega)]
    by_cases e : a = 39
    · subst e; funext j; unfold rdM; rw [up2_same, up2_same, cpS_out (by omega)]
    · rw [rdM_o e, rdM_o e, cpS_out (by omega)]
theorem RdI_cp {I : Mem} {T : Nat} {tv : Nat → Nat} (h : RdI I T tv) : RdI (cpS I 13 1) T tv :=
  ⟨by rw [cpS_out (by omega)]; exact h.1, h.2.1, fun j hj => by rw [cpS_out (by omega)]; exact h.2.2.1 j hj, h.2.2.2⟩
def bogR (I : Mem) (tv : Nat → Nat) (T : Nat) : Bool × Mem × Nat := bogA tv T (cpS (B0 I T) 13 1) (skp tv T 0)
def bogM (J : Mem) (q : Nat) : Mem := up2 (rdM J q) 0 8 (-1)
def bogN (J : Mem) (q : Nat) : Mem := up2 (up2 (cpS (bogM J q) 1 13) 1 17 (cpS (bogM J q) 1 13 1 17 + nI 1)) 0 5 (nI 0)
theorem SS_R {K : Nat → Nat × Nat} {I : Mem} {R : Nat → Nat → Option Nat} {v : Option Nat} (h : SS K I R) : SS K I (up2 R 13 18 v) := fun i hi => by
  obtain ⟨s1, s2, s3, s4, s5⟩ := h i hi
  exact ⟨s1, s2, by rw [up2_row (by unfold lmB; omega)]; exact s3, s4, s5⟩
theorem bogA_ok {tv : Nat → Nat} {T H p : Nat} {I : Mem} (hH6 : H ≤ 6) (hp : p ≤ T) (hH : I 13 10 = nI H) : LOk T I (bogA tv T I p) := by
  unfold bogA; split
  · exact LOk_f hp hH hH6
  · exact allL_ok 14 H p I hH6 hp hH

theorem c_start {d : Nat} {K : Nat → Nat × Nat} {I : Nat → Nat → Int32} {L : Nat → Nat → Int64} {R : Nat → Nat → Option Nat} {n s : Nat} {Q : Lo → Lm → Prop} {T : Nat} {tv : Nat → Nat} (hT : TK K R n) (hT4 : T ≤ 400) (htv : ∀ j, j < 400 → I 38 j = nI (tv j)) (htl : ∀ j, j < 400 → tv j < 256) (kk : Q (.inl none) (K, rdM (up2 I 39 1 (nI T)) (skp tv T 0), L, R, n, s)) : Ok (d + 2) 67 [.ref 39, .int (nI T)] (K, I, L, R, n, s) Q := by
  obtain ⟨-, -, hn⟩ := id hT
  refine Ok.enter (F := F_67) (ls := [.ref 39, .int (nI T)]) rfl rfl ?_
  refine wp_aload0 (pc' := 1) rfl rfl ?_
  refine wp_iload1 (pc' := 2) rfl rfl ?_
  refine wp_aload0 (pc' := 3) rfl rfl ?_
  refine wp_getRF (pc' := 6) rfl rfl (by first | exact TK.k1 hT rfl | exact TK.kk hT rfl | exact TK.r hT rfl | assumption) (by first | exact TK.k1 hT rfl | exact TK.kk hT rfl | exact TK.r hT rfl | assumption) rfl ?_
  refine wp_alen (pc' := 7) rfl (by first | exact TK.k1 hT rfl | exact TK.kk hT rfl | exact TK.r hT rfl | assumption) rfl rfl rfl ?_
  refine wp_min (pc' := 10) rfl rfl rfl rfl ?_
  refine wp_putI (pc' := 13) rfl rfl (by first | exact TK.k1 hT rfl | exact TK.kk hT rfl | exact TK.r hT rfl | assumption) (by omega) rfl ?_
  rw [nI_min (by omega) (by decide), Nat.min_eq_left hT4]
  obtain ⟨p, hp⟩ := nI_surj (up2 I 39 1 (nI T) 39 2)
  rw [← rd_self hp]
  refine wp_aload0 (pc' := 14) rfl rfl ?_
  refine wp_iconst (v := nI 0) (pc' := 15) rfl rfl rfl ?_
  refine wp_callV2 (pc' := 18) rfl rfl rfl rfl rfl (by first | exact TK.k1 hT rfl | exact TK.kk hT rfl | exact TK.r hT rfl | assumption) rfl rfl ?_
  refine c_goOn hT ⟨up2_hit, hT4, fun j hj => by rw [up2_row (by decide)]; exact htv j hj, htl⟩ (Nat.zero_le _) ?_
  refine Cont.u ?_
  refine wp_vret rfl rfl ?_
  exact kk
theorem c_bog {d : Nat} {K : Nat → Nat × Nat} {I : Nat → Nat → Int32} {L : Nat → Nat → Int64} {R : Nat → Nat → Option Nat} {n s : Nat} {Q : Lo → Lm → Prop} {T H : Nat} {tv : Nat → Nat} (hT : TK K R n) (hf : n + 1 ≤ lmCells) (hs : s + 6 ≤ lmSlots) (hL7 : I 0 7 = nI T) (hT4 : T ≤ 400) (htv : ∀ j, j < 400 → I 38 j = nI (tv j)) (htl : ∀ j, j < 400 → tv j < 256) (hS : SS K I R) (hH : I 1 10 = nI H) (hH6 : H ≤ 6) (hr : I 1 14 = 0 ∨ I 1 14 = 1) (hn1 : Nrm (vw 1 I)) (hn13 : Nrm (vw 13 I)) (kkE : ∀ J q, bogR I tv T = (false, J, q) → Q (.inr n) (exM 14 (K, up2 (rdM J q) 0 8 (nI q), L, up2 R 13 18 (R 1 18), n, s))) (kkU : ∀ J q, bogR I tv T = (true, J, q) → ¬ I 1 17 < nI 12 → Q (.inr n) (exM 15 (K, bogM J q, L, up2 R 13 18 (R 1 18), n, s))) (kk : ∀ J q, bogR I tv T = (true, J, q) → I 1 17 < nI 12 → Q (.inl (some (.int (bogN J q 1 17)))) (K, bogN J q, L, up2 (up2 R 13 18 (R 1 18)) 1 18 ((up2 R 13 18 (R 1 18)) 13 18), n, s)) : Ok (d + 9) 65 [.ref 0] (K, I, L, R, n, s) Q := by
  have hb := TK.s1 hT
  have hb13 := TK.s13 hT
  obtain ⟨-, -, hn⟩ := id hT
  refine Ok.enter (F := F_65) (ls := [.ref 0, lDead]) rfl rfl ?_
  refine wp_aload0 (pc' := 1) rfl rfl ?_
  refine wp_getRF (pc' := 4) rfl rfl (by first | exact TK.k1 hT rfl | exact TK.kk hT rfl | exact TK.r hT rfl | assumption) (by first | exact TK.k1 hT rfl | exact TK.kk hT rfl | exact TK.r hT rfl | assumption) rfl ?_
  refine wp_aload0 (pc' := 5) rfl rfl ?_
  refine wp_callV1 (pc' := 8) rfl rfl rfl rfl rfl (by first | exact TK.k1 hT rfl | exact TK.kk hT rfl | exact TK.r hT rfl | assumption) rfl rfl ?_
  refine c_useTape hT ?_
  rw [hL7]
  refine Cont.v ?_
  refine wp_callV2 (pc' := 11) rfl rfl rfl rfl rfl (by first | exact TK.k1 hT rfl | exact TK.kk hT rfl | exact TK.r hT rfl | assumption) rfl rfl ?_
  refine c_start hT hT4 (fun j hj => by rw [up2_row (by decide)]; exact htv j hj) htl ?_
  refine Cont.u ?_
  refine wp_aload0 (pc' := 12) rfl rfl ?_
  refine wp_getRF (pc' := 15) rfl rfl (by first | exact TK.k1 hT rfl | exact TK.kk hT rfl | exact TK.r hT rfl | assumption) (by first | exact TK.k1 hT rfl | exact TK.kk hT rfl | exact TK.r hT rfl | assumption) rfl ?_
  refine wp_aload0 (pc' := 16) rfl rfl ?_
  refine wp_getRF (pc' := 19) rfl rfl (by first | exact TK.k1 hT rfl | exact TK.kk hT rfl | exact TK.r hT rfl | assumption) (by first | exact TK.k1 hT rfl | exact TK.kk hT rfl | exact TK.r hT rfl | assumption) rfl ?_
  refine wp_callV2 (pc' := 22) rfl rfl rfl rfl rfl (by first | exact TK.k1 hT rfl | exact TK.kk hT rfl | exact TK.r hT rfl | assumption) rfl rfl ?_
  rw [show rdM (up2 (up2 I 0 7 (nI 0)) 39 1 (nI T)) (skp tv T 0) = rdM (B0 I T) (skp tv T 0) from rfl]
  have hB : ∀ a, a ≠ 0 → a ≠ 39 → rdM (B0 I T) (skp tv T 0) a = I a := fun a h0 h1 => by rw [rdM_o h1, B0_o h0 h1]
  refine c_copy hb13 hb (Or.inr (by decide)) (by rw [hB 1 (by decide) (by decide)]; exact hr) (Nrm_eq hn13 (fun k hk => hB _ (by omega) (by omega))) (Nrm_eq hn1 (fun k hk => hB _ (by omega) (by omega))) ?_
  rw [cpS_rd]
  have hT := TK_18 (b := 13) (v := R 1 18) hT (by unfold isSt; omega)
  have hb := TK.s1 hT
  have hb13 := TK.s13 hT
  refine Cont.u ?_
  refine wp_aload0 (pc' := 23) rfl rfl ?_
  refine wp_getRF (pc' := 26) rfl rfl (by first | exact TK.k1 hT rfl | exact TK.kk hT rfl | exact TK.r hT rfl | assumption) (by first | exact TK.k1 hT rfl | exact TK.kk hT rfl | exact TK.r hT rfl | assumption) rfl ?_
  refine wp_callV1 (pc' := 29) rfl rfl rfl rfl rfl (by first | exact TK.k1 hT rfl | exact TK.kk hT rfl | exact TK.r hT rfl | assumption) rfl rfl ?_
  have hRd := RdI_cp (B0_rd hT4 htv htl)
  have hSS : SS K (cpS (B0 I T) 13 1) (up2 R 13 18 (R 1 18)) := SS_R (SS_off hS (fun a ha => by rw [cpS_out (by unfold lmB at ha; omega), B0_o (by unfold lmB at ha; omega) (by unfold lmB at ha; omega)]))
  have hH2 : cpS (B0 I T) 13 1 13 10 = nI H := by rw [show cpS (B0 I T) 13 1 13 = B0 I T 1 from cpS_in (k := 0) (by decide), B0_o (by decide) (by decide)]; exact hH
  refine c_bogAll hT hRd hSS (skp_ge (Nat.zero_le _)).2 hH2 hH6 (fun b J q e => ?_)
  have hok := bogA_ok (tv := tv) hH6 (skp_ge (tv := tv) (T := T) (p := 0) (Nat.zero_le _)).2 hH2
  rw [e] at hok
  obtain ⟨hu, hqT, -⟩ := hok
  dsimp only at hu hqT
  refine Cont.v ?_
  refine wp_istore1 (pc' := 30) rfl (by first | rfl | assumption) rfl ?_
  refine wp_aload0 (pc' := 31) rfl rfl ?_
  refine wp_iload1 (pc' := 32) rfl rfl ?_
  first | refine wp_ifeqB (pc' := 35) rfl rfl ?_ ?_ | refine wp_ifeq (pc' := 35) rfl rfl ?_ ?_
  · intro h32
    refine wp_aload0 (pc' := 40) rfl rfl ?_
    refine wp_getRF (pc' := 43) rfl rfl (by first | exact TK.k1 hT rfl | exact TK.kk hT rfl | exact TK.r hT rfl | assumption) (by first | exact TK.k1 hT rfl | exact TK.kk hT rfl | exact TK.r hT rfl | assumption) rfl ?_
    refine wp_getI (pc' := 46) rfl rfl (by first | exact TK.k1 hT rfl | exact TK.kk hT rfl | exact TK.r hT rfl | assumption) rfl ?_
    try rw [rdM_2]
    refine wp_putI (pc' := 49) rfl rfl (by first | exact TK.k1 hT rfl | exact TK.kk hT rfl | exact TK.r hT rfl | assumption) (by omega) rfl ?_
    refine wp_iload1 (pc' := 50) rfl rfl ?_
    refine wp_ifneF (pc' := 53) rfl (by rw [if_neg h32]) rfl ?_
    refine wp_raise (pc := 53) rfl rfl rfl rfl rfl rfl rfl rfl rfl (by decide) (by decide) (by omega) (by omega) rfl ?_
    obtain rfl : b = false := Bool.eq_false_iff.mpr h32
    exact kkE J q e
  · intro h32
    refine wp_iconst (v := (-1)) (pc' := 36) rfl rfl rfl ?_
    refine wp_goto rfl ?_
    try rw [rdM_2]
    refine wp_putI (pc' := 49) rfl rfl (by first | exact TK.k1 hT rfl | exact TK.kk hT rfl | exact TK.r hT rfl | assumption) (by omega) rfl ?_
    refine wp_iload1 (pc' := 50) rfl rfl ?_
    refine wp_ifneT rfl (by rw [if_pos h32]; decide) ?_
    refine wp_aload0 (pc' := 64) rfl rfl ?_
    refine wp_getRF (pc' := 67) rfl rfl (by first | exact TK.k1 hT rfl | exact TK.kk hT rfl | exact TK.r hT rfl | assumption) (by first | exact TK.k1 hT rfl | exact TK.kk hT rfl | exact TK.r hT rfl | assumption) rfl ?_
    skip
    refine wp_getI (pc' := 70) rfl rfl (by first | exact TK.k1 hT rfl | exact TK.kk hT rfl | exact TK.r hT rfl | assumption) rfl ?_
    refine wp_bipush (v := nI 12) (pc' := 72) rfl rfl rfl ?_
    rw [up2_row (show 1 ≠ 0 by decide), rdM_o (show 1 ≠ 39 by decide), hu.1 1 (by decide), cpS_out (by decide), B0_o (by decide) (by decide)]
    refine wp_icmplt (pc' := 75) rfl rfl ?_ ?_
    · intro h72
      refine wp_aload0 (pc' := 86) rfl rfl ?_
      refine wp_getRF (pc' := 89) rfl rfl (by first | exact TK.k1 hT rfl | exact TK.kk hT rfl | exact TK.r hT rfl | assumption) (by first | exact TK.k1 hT rfl | exact TK.kk hT rfl | exact TK.r hT rfl | assumption) rfl ?_
      refine wp_aload0 (pc' := 90) rfl rfl ?_
      refine wp_getRF (pc' := 93) rfl rfl (by first | exact TK.k1 hT rfl | exact TK.kk hT rfl | exact TK.r hT rfl | assumption) (by first | exact TK.k1 hT rfl | exact TK.kk hT rfl | exact TK.r hT rfl | assumption) rfl ?_
      refine wp_callV2 (pc' := 96) rfl rfl rfl rfl rfl (by first | exact TK.k1 hT rfl | exact TK.kk hT rfl | exact TK.r hT rfl | assumption) rfl rfl ?_
      have hM : ∀ a, a ≠ 0 → a ≠ 39 → up2 (rdM J q) 0 8 (-1) a = J a := fun a h0 h1 => by rw [up2_row h0, rdM_o h1]
      have hJ1 : ∀ k, k < 12 → J (1 + k) = I (1 + k) := fun k hk => by rw [hu.1 _ (by omega), cpS_out (by omega), B0_o (by omega) (by omega)]
      have hN13 : Nrm (vw 13 J) := hu.2.1 (Nrm_cp (Nrm_eq hn1 (fun k hk => B0_o (by omega) (by omega))))
      refine c_copy hb hb13 (Or.inl (by decide)) (by
        rw [hM 13 (by decide) (by decide)]
        rcases hu.2.2 with z | z
        · rw [z, show cpS (B0 I T) 13 1 13 = B0 I T 1 from cpS_in (k := 0) (by decide), B0_o (by decide) (by decide)]; exact hr
        · exact Or.inr z) (Nrm_eq hn1 (fun k hk => by rw [hM _ (by omega) (by omega)]; exact hJ1 k hk)) (Nrm_eq hN13 (fun k hk => hM _ (by omega) (by omega))) ?_
      have hT := TK_18 (b := 1) (v := (up2 R 13 18 (R 1 18)) 13 18) hT (by unfold isSt; omega)
      have hb := TK.s1 hT
      refine Cont.u ?_
      refine wp_aload0 (pc' := 97) rfl rfl ?_
      refine wp_getRF (pc' := 100) rfl rfl (by first | exact TK.k1 hT rfl | exact TK.kk hT rfl | exact TK.r hT rfl | assumption) (by first | exact TK.k1 hT rfl | exact TK.kk hT rfl | exact TK.r hT rfl | assumption) rfl ?_
      refine wp_dup (pc' := 101) rfl rfl rfl ?_
      refine wp_getI (pc' := 104) rfl rfl (by first | exact TK.k1 hT rfl | exact TK.kk hT rfl | exact TK.r hT rfl | assumption) rfl ?_
      refine wp_iconst (v := nI 1) (pc' := 105) rfl rfl rfl ?_
      first | refine wp_iaddN (pc' := 106) rfl (by with_reducible rfl) (by with_reducible rfl) rfl ?_ | refine wp_iadd (pc' := 106) rfl rfl ?_
      refine wp_putI (pc' := 109) rfl rfl (by first | exact TK.k1 hT rfl | exact TK.kk hT rfl | exact TK.r hT rfl | assumption) (by omega) rfl ?_
      refine wp_aload0 (pc' := 110) rfl rfl ?_
      refine wp_iconst (v := nI 0) (pc' := 111) rfl rfl rfl ?_
      refine wp_putI (pc' := 114) rfl rfl (by first | exact TK.k1 hT rfl | exact TK.kk hT rfl | exact TK.r hT rfl | assumption) (by omega) rfl ?_
      refine wp_aload0 (pc' := 115) rfl rfl ?_
      refine wp_getRF (pc' := 118) rfl rfl (by first | exact TK.k1 hT rfl | exact TK.kk hT rfl | exact TK.r hT rfl | assumption) (by first | exact TK.k1 hT rfl | exact TK.kk hT rfl | exact TK.r hT rfl | assumption) rfl ?_
      refine wp_getI (pc' := 121) rfl rfl (by first | exact TK.k1 hT rfl | exact TK.kk hT rfl | exact TK.r hT rfl | assumption) rfl ?_
      refine wp_iret rfl rfl rfl ?_
      obtain rfl : b = true := h32
      exact kk J q e h72
    · intro h72
      refine wp_raise (pc := 75) rfl rfl rfl rfl rfl rfl rfl rfl rfl (by decide) (by decide) (by omega) (by omega) rfl ?_
      obtain rfl : b = true := h32
      exact kkU J q e h72
