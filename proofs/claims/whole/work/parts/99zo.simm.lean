/-! PAIRS: the seed, undoing, the image, the tape -/
theorem sim_S {S S2 : Mem} {w : Nat → Int32} (h : SimS S w) (e : ∀ k, k < 12 → S2 k = S k) : SimS S2 w := by
  obtain ⟨h1, ⟨q, g, g1, g2, g3, g4, g5, g6⟩, h3, h4⟩ := h
  refine ⟨fun k j hk hj => ?_, ⟨q, g, g1, g2, ?_, ?_, g5, fun k f hk hf => ?_⟩, fun k j hj => ?_, h4⟩
  · rw [e k (by omega)]; exact h1 k j hk hj
  · rw [e 10 (by decide)]; exact g3
  · rw [e 10 (by decide)]; exact g4
  · rw [e 11 (by decide)]; exact g6 k f hk hf
  · by_cases hk : k < 12
    · rw [e k hk]; exact h3 k j hj
    · exfalso
      unfold inS at hj
      rw [if_neg (by omega), if_neg (by omega), if_neg (by omega), if_neg (by omega), if_neg (by omega)] at hj; cases hj
theorem pas_ag {I J : Mem} {R : Nat → Nat → Option Nat} (h : PasR I R) (e : ∀ a, 174 ≤ a → a < 318 → J a = I a) (e5 : J 0 5 = I 0 5) (e7 : J 318 7 = I 318 7) (e3 : J 323 = I 323) (e2 : J 319 2 = I 319 2) : PasR J R := by
  obtain ⟨p, A, Ss, h1, h2, h3⟩ := h
  exact ⟨p, A, Ss, past_ag h1 e e5, e7.trans h2, fun i hi => by rw [e3, e2]; exact h3 i hi⟩
/-- now and its world are set, laws and what is kept stay -/
theorem sim_nw {N : Nat} {xs : Nat → Int32} {K : Nat → Nat × Nat} {I J : Mem} {L : Nat → Nat → Int64} {R : Nat → Nat → Option Nat} {n : Nat} {o : LawT} {ro : RwT} {H H2 : Nat}
    (h : Sim N xs K I L R n) (hS : StR K R n I 1 o (I 319) ro H) (e : ∀ a, 13 ≤ a → a ≠ 318 → a ≠ 319 → J a = I a) (e0 : ∀ j, j ≠ 5 → J 0 j = I 0 j) (e3 : ∀ j, (j = 6 ∨ j = 9 ∨ j = 14) → J 318 j = I 318 j)
    (hs : SimS (vw 1 J) (J 319)) (hw : WB (J 319) H2) (hi : ∀ j, 483 ≤ j → J 319 j = I 319 j) (h2 : J 319 2 = I 319 2) (hP : PasR J R) : Sim N xs K J L R n := by
  obtain ⟨⟨hT, hTS, hSS, hsc, hxs, hnl⟩, -, hK, hTp, -, h8, h13, h25⟩ := h
  have hb : lmCells < lmB := by decide
  have hb2 : 338 ≤ lmB := by decide
  have hIl : ∀ a, 338 ≤ a → a < n → offR none a → J a = I a := fun a q1 q2 _ => e a (by omega) (by omega) (by omega)
  have dn : ∀ oo : LawT, LaD oo none := fun oo => by
    cases oo
    · trivial
    · exact fun la q => by cases q
  refine ⟨⟨hT, hTS, fun i hi2 => ?_, hsc, ⟨fun j => ?_, by rw [e 44 (by decide) (by decide) (by decide)]; exact hxs.2⟩, hnl⟩, ⟨o, ro, H2, ?_⟩, ?_, ?_, hP, ?_, ?_, ?_⟩
  · obtain ⟨s1, s2, s3, s4, s5⟩ := hSS i hi2
    refine ⟨s1, s2, s3, fun j => ?_, fun j => ?_⟩
    · rw [e _ (by omega) (by omega) (by omega)]; exact s4 j
    · rw [e _ (by omega) (by omega) (by omega)]; exact s5 j
  · rw [e lmScr (by unfold lmScr; omega) (by unfold lmScr; omega) (by unfold lmScr; omega)]; exact hxs.1 j
  · obtain ⟨s1, s2, s3, s4, s5, s6, s7⟩ := hS
    exact ⟨hs, hw, LO_fr s3 s4 (dn o) (Nat.le_refl _) (fun _ _ => rfl) rfl (fun _ _ _ => rfl) hIl, s4, lawOO_ag hi (lawOO_fr s3 s4 (dn o) hIl s5), RO_ag h2 hi s6, amb_ag hi s7⟩
  · rcases hK with ⟨q1, q2⟩ | ⟨q1, q2, ok, rk, Hk, q3, q4⟩
    · exact Or.inl ⟨(e0 3 (by decide)).trans q1, (e3 6 (by decide)).trans q2⟩
    · refine Or.inr ⟨(e0 3 (by decide)).trans q1, (e3 6 (by decide)).trans q2, ok, rk, Hk, ?_, q4⟩
      rw [e 320 (by decide) (by decide) (by decide)]
      exact st_fr q3 (dn ok) (Nat.le_refl _) (fun _ _ => rfl) rfl (fun _ _ _ => rfl) hIl (fun q hq => e _ (by omega) (by omega) (by omega))
  · exact tap_ag hTp (e0 7 (by decide)) (e3 9 (by decide)) (e 38 (by decide) (by decide) (by decide)) (e 324 (by decide) (by decide) (by decide))
  · rw [e0 8 (by decide), e3 14 (by decide)]; exact h8
  · exact nrm_ag h13 (fun a q1 q2 => e a (by omega) (by omega) (by omega))
  · exact nrm_ag h25 (fun a q1 q2 => e a (by omega) (by omega) (by omega))
/-- a state with its law, laid elsewhere -/
theorem st_mv {K : Nat → Nat × Nat} {R R2 : Nat → Nat → Option Nat} {n : Nat} {I J : Mem} {b b2 : Nat} {o : LawT} {w : Nat → Int32} {ro : RwT} {H : Nat} (h : StR K R n I b o w ro H) (hb : b2 + 12 ≤ 338) (e : ∀ k, k < 12 → J (b2 + k) = I (b + k)) (hR : R2 b2 18 = R b 18) (hRl : ∀ a, 338 ≤ a → a < n → R2 a = R a) (hIl : ∀ a, 338 ≤ a → a < n → J a = I a) : StR K R2 n J b2 o w ro H := by
  obtain ⟨h1, h2, h3, h4, h5, h6, h7⟩ := h
  refine ⟨sim_S h1 (fun k hk => e k hk), h2, ?_, h4, ?_, h6, h7⟩
  · match o, h3, h4 with
    | none, h3, _ => exact hR.trans h3
    | some (la, m, z, bg), ⟨q1, ⟨k0, k1, k2, k3, k4, k5, r1, r2, r3, r4, r5, hl, hm, hz⟩, ⟨n1, n2, n3, n4⟩, q4⟩, h4 =>
      have hw2 : 338 ≤ la := h4
      refine ⟨hR.trans q1, ⟨k0, k1, k2, k3, k4, k5, ?_, ?_, ?_, ?_, ?_, hl, hm, hz⟩, ⟨?_, fun l hl2 => ?_, n3, n4⟩, Or.inr (by omega)⟩
      · rw [hRl la hw2 (by omega)]; exact r1
      · rw [hRl la hw2 (by omega)]; exact r2
      · rw [hRl la hw2 (by omega)]; exact r3
      · rw [hRl la hw2 (by omega)]; exact r4
      · rw [hRl la hw2 (by omega)]; exact r5
      · rw [hIl la hw2 (by omega)]; exact n1
      · rw [hIl (la + 3) (by omega) (by omega)]; exact n2 l hl2
  · match o, ro, h3, h4, h5 with
    | none, none, _, _, _ => trivial
    | some (la, m, z, bg), some (m2, b0, b1), h3, h4, h5 =>
      have hw2 : 338 ≤ la := h4
      have hl : la + 6 ≤ n := h3.2.1.2.2.2.2.2.2.2.2.2.2.2.1
      obtain ⟨q1, q2, q3, ⟨s0, s1, s2⟩, q5⟩ := h5
      refine ⟨q1, q2, q3, ⟨s0, fun l hl2 => ?_, fun t ht => ?_⟩, Or.inr (by omega)⟩
      · rw [hIl (la + 1) (by omega) (by omega), hIl (la + 2) (by omega) (by omega), hIl (la + 4) (by omega) (by omega)]; exact s1 l hl2
      · rw [hIl (la + 4) (by omega) (by omega)]; exact s2 t ht
theorem o_seed {N d : Nat} {xs : Nat → Int32} {K : Nat → Nat × Nat} {I : Mem} {L : Nat → Nat → Int64} {R : Nat → Nat → Option Nat} {n s : Nat} {x : Int32} (h : Sim N xs K I L R n) : Ok (d + 40) 57 [.ref 0, .int x] (K, I, L, R, n, s) (DirC N xs (d + 40) 367 [.ref 318, .int x] n s) := by
  obtain ⟨hB, ⟨o, ro, H, hS⟩, hK, hTp, ⟨p, A, Ss, hP, hA, hPs⟩, h8, h13, h25⟩ := id h
  have hT := hB.1
  have h338 := hT.2.2
  have hw := hS.2.1.1
  have hH6 := hS.2.1.2.1
  refine c_seed (d := d + 39) hT ⟨_, rfl, m_seed (d := d + 39) hT ?_, midT hB (up2_row (by decide))⟩
  rw [show up2 I 1 16 x 319 8 = I 319 8 from by rw [up2_row (by decide)], (sim_r0 hS.1).2.2.2.2.2.2.1]
  have e9 : up2 (up2 (up2 I 1 16 x) 318 0 (nI 0)) 319 8 x 319 = up1 (I 319) 8 x := by
    funext j
    rw [up2_same, up2_row (by decide), up2_row (by decide)]; rfl
  refine dir_mk (sim_nw (H2 := H) h hS (fun a q1 q2 q3 => ?_) (fun j hj => ?_) (fun j hj => ?_) ?_ ?_ (fun j hj => ?_) ?_ ?_) (by omega) (by omega)
  · rw [up2_row q3, up2_row q2, up2_row (by omega)]
  · rw [up2_row (by decide), up2_row (by decide), up2_row (by decide)]
  · rw [up2_row (by decide), up2_same, if_neg (by omega), up2_row (by decide)]
  · rw [e9]
    exact sim_vw (sim_putv (b := 1) (k := 0) (j := 16) hS.1 (by decide) rfl (by omega) rfl) (fun k hk => by rw [up2_row (by omega), up2_row (by omega)])
  · rw [e9]; exact wb_fr hS.2.1 (by omega)
  · rw [e9]; exact up1_ne (by omega)
  · rw [e9]; exact up1_ne (by decide)
  · exact pas_ag ⟨p, A, Ss, hP, hA, hPs⟩ (fun a q1 q2 => by rw [up2_row (by omega), up2_row (by omega), up2_row (by omega)]) (by rw [up2_row (by decide), up2_row (by decide), up2_row (by decide)]) (by rw [up2_row (by decide), up2_same, if_neg (by decide), up2_row (by decide)]) (by rw [up2_row (by decide), up2_row (by decide), up2_row (by decide)]) (by rw [e9]; exact up1_ne (by decide))
theorem o_undo {N d : Nat} {xs : Nat → Int32} {K : Nat → Nat × Nat} {I : Mem} {L : Nat → Nat → Int64} {R : Nat → Nat → Option Nat} {n s : Nat} (h : Sim N xs K I L R n) : Ok (d + 40) 58 [.ref 0] (K, I, L, R, n, s) (DirC N xs (d + 40) 215 [.ref 318] n s) := by
  obtain ⟨hB, ⟨o, ro, H, hS⟩, hK, hTp, ⟨p, A, Ss, hP, hA, hPs⟩, h8, h13, h25⟩ := id h
  have hT := hB.1
  have h338 := hT.2.2
  have hw := hS.2.1.1
  have hH6 := hS.2.1.2.1
  have hra : ∀ i, i < A → I (p i) 14 = 0 ∨ I (p i) 14 = 1 := fun i hi => by
    obtain ⟨q1, ⟨H3, q2⟩, -⟩ := hPs i hi
    rw [show I (p i) = Ss i 0 from (hP.2.2.2.2 i hi).1 0 (by decide), (sim_0 q1).2.2.2.1]
    exact q2.2.2.1
  have hA12 := hP.2.2.1
  refine c_undo (d := d + 37) hT hP (nrm1 hS.1) hra (fun hz => ⟨_, rfl, ?_, mid0 hB⟩) (fun a ha => ⟨_, rfl, ?_, midT hB ((cpS_out (Or.inr (by decide))).trans (up2_row (by decide)))⟩)
  · subst hz
    exact m_undo0 (d := d + 39) hT hA (dir_v h)
  · subst ha
    obtain ⟨q1, ⟨H3, q2⟩, q4⟩ := hPs a (by omega)
    obtain ⟨eq1, eq2⟩ := hP.2.2.2.2 a (by omega)
    obtain ⟨-, ⟨b1, b2, b3⟩, -⟩ := hP.1 a (by omega)
    have hRR : up2 R 1 18 (R (p a) 18) = R := by
      funext i j
      by_cases e : i = 1 ∧ j = 18
      · obtain ⟨rfl, rfl⟩ := e; rw [up2_hit, eq2]
      · rw [up2_off e]
    rw [hRR]
    have eJ : ∀ q, (q = 0 ∨ 13 ≤ q) → cpS (up2 I 0 5 (nI a)) 1 (p a) q = up2 I 0 5 (nI a) q := fun q hq => cpS_out (by omega)
    have e318 : cpS (up2 I 0 5 (nI a)) 1 (p a) 318 = I 318 := by rw [eJ 318 (by omega), up2_row (by decide)]
    refine m_undo1 (d := d + 39) (A := a) hT (by rw [e318]; exact hA) (by omega) ?_
    generalize hJ : cpS (up2 I 0 5 (nI a)) 1 (p a) = J at *
    have eI : ∀ q, 13 ≤ q → J q = I q := fun q hq => by rw [eJ q (by omega), up2_row (by omega)]
    have e9 : upr (up2 (up2 J 318 0 (nI 0)) 318 7 (nI a)) 319 (cpy 483 (fun k => (up2 (up2 J 318 0 (nI 0)) 318 7 (nI a)) 323 (483 * a + k)) ((up2 (up2 J 318 0 (nI 0)) 318 7 (nI a)) 319)) 319 = cpy 483 (fun k => I 323 (483 * a + k)) (I 319) := by
      rw [upr_same, up2_row (by decide), up2_row (by decide), up2_row (by decide), up2_row (by decide), eI 323 (by decide), eI 319 (by decide)]
    have hlo : ∀ j, j < 483 → cpy 483 (fun k => I 323 (483 * a + k)) (I 319) j = I 323 (483 * a + j) := fun j hj => cpy_lt hj
    have hhi : ∀ j, 483 ≤ j → cpy 483 (fun k => I 323 (483 * a + k)) (I 319) j = I 319 j := fun j hj => cpy_ge hj
    have h2 : cpy 483 (fun k => I 323 (483 * a + k)) (I 319) 2 = I 319 2 := (hlo 2 (by decide)).trans q4
    refine dir_mk (sim_nw (H2 := H3) h hS (fun q r1 r2 r3 => ?_) (fun j hj => ?_) (fun j hj => ?_) ?_ ?_ (fun j hj => ?_) ?_ ⟨p, a, Ss, ?_, ?_, fun i hi => ?_⟩) (by omega) (by omega)
    · rw [upr_ne r3, up2_row r2, up2_row r2, eI q r1]
    · rw [upr_ne (by decide), up2_row (by decide), up2_row (by decide), eJ 0 (by omega), up2_same, if_neg hj]
    · rw [upr_ne (by decide), up2_same, if_neg (by omega), up2_same, if_neg (by omega), e318]
    · rw [e9]
      refine sim_w (sim_S q1 (fun k hk => ?_)) (fun j hj _ => hlo j hj)
      show upr _ 319 _ (1 + k) = _
      rw [upr_ne (by omega), up2_row (by omega), up2_row (by omega), ← hJ, cpS_in hk, up2_row (by omega)]
      exact eq1 k hk
    · rw [e9]; exact wb_ag (fun j hj _ _ => hlo j (by omega)) q2
    · rw [e9]; exact hhi j hj
    · rw [e9]; exact h2
    · obtain ⟨p1, p2, p3, p4, p5⟩ := hP
      have er : ∀ q, 174 ≤ q → q < 318 → upr (up2 (up2 J 318 0 (nI 0)) 318 7 (nI a)) 319 (cpy 483 (fun k => (up2 (up2 J 318 0 (nI 0)) 318 7 (nI a)) 323 (483 * a + k)) ((up2 (up2 J 318 0 (nI 0)) 318 7 (nI a)) 319)) q = I q := fun q r1 r2 => by rw [upr_ne (by omega), up2_row (by omega), up2_row (by omega), eI q (by omega)]
      refine past_ag (I := up2 I 0 5 (nI a)) ⟨fun i hi => ?_, p2, by omega, up2_hit, fun i hi => ?_⟩ (fun q r1 r2 => by rw [er q r1 r2, up2_row (by omega)]) (by rw [upr_ne (by decide), up2_row (by decide), up2_row (by decide), eJ 0 (by omega)])
      · obtain ⟨r1, r2, r3⟩ := p1 i hi
        exact ⟨r1, r2, Nrm_eq r3 (fun k hk => up2_row (by omega))⟩
      · obtain ⟨r1, r2⟩ := p5 i (by omega)
        obtain ⟨-, r3, -⟩ := p1 i (by omega)
        exact ⟨fun k hk => (up2_row (by omega)).trans (r1 k hk), r2⟩
    · rw [upr_ne (by decide), up2_hit]
    · rw [e9, h2, upr_ne (by decide), up2_row (by decide), up2_row (by decide), eI 323 (by decide)]; exact hPs i (by omega)
theorem sim_nrm {S : Mem} {w : Nat → Int32} (h : SimS S w) : Nrm S := h.2.2.1
theorem bas_mk {N : Nat} {xs : Nat → Int32} {K : Nat → Nat × Nat} {I J : Mem} {L : Nat → Nat → Int64} {R R2 : Nat → Nat → Option Nat} {n : Nat} (h : BasR N xs K I L R n) (hT : TK K R2 n) (e : ∀ a, 338 ≤ a → J a = I a) (hR : ∀ a, 338 ≤ a → R2 a = R a) (h44 : J 44 = I 44) : BasR N xs K J L R2 n := by
  obtain ⟨h1, h2, h3, h4, h5, h6⟩ := h
  have hb2 : 338 ≤ lmB := by decide
  refine ⟨hT, h2, fun i hi2 => ?_, h4, ⟨fun j => ?_, by rw [h44]; exact h5.2⟩, h6⟩
  · obtain ⟨s1, s2, s3, s4, s5⟩ := h3 i hi2
    refine ⟨s1, s2, ?_, fun j => ?_, fun j => ?_⟩
    · rw [hR _ (by omega)]; exact s3
    · rw [e _ (by omega)]; exact s4 j
    · rw [e _ (by omega)]; exact s5 j
  · rw [e lmScr (Nat.le_trans hb2 (Nat.le_add_right lmB 2000))]; exact h5.1 j
def VoiR (N : Nat) (xs : Nat → Int32) (n s : Nat) (o : Lo) (t : Lm) : Prop := o = .inl none ∧ SimT N xs t ∧ lmN t ≤ n + 6 ∧ lmS t ≤ s + 876
def VoiC (N : Nat) (xs : Nat → Int32) (D m : Nat) (args : List Value) (n s : Nat) (o : Lo) (t : Lm) : Prop := o = .inl none ∧ Ok D m args t (VoiR N xs n s) ∧ MidR N xs (lmK t) (lmI t)
theorem voi_mk {N : Nat} {xs : Nat → Int32} {K : Nat → Nat × Nat} {I : Mem} {L : Nat → Nat → Int64} {R : Nat → Nat → Option Nat} {n s n2 s2 : Nat} (h : Sim N xs K I L R n2) (hn : n2 ≤ n + 6) (hs : s2 ≤ s + 876) : VoiR N xs n s (.inl none) (K, I, L, R, n2, s2) := ⟨rfl, h, hn, hs⟩
theorem o_image {N d : Nat} {xs : Nat → Int32} {K : Nat → Nat × Nat} {I : Mem} {L : Nat → Nat → Int64} {R : Nat → Nat → Option Nat} {n s : Nat} (h : Sim N xs K I L R n) : Ok (d + 40) 59 [.ref 0] (K, I, L, R, n, s) (VoiC N xs (d + 40) 213 [.ref 318] n s) := by
  obtain ⟨hB, ⟨o, ro, H, hS⟩, hK, hTp, ⟨p, A, Ss, hP, hA, hPs⟩, h8, h13, h25⟩ := id h
  have hT := hB.1
  have h338 := hT.2.2
  have hw := hS.2.1.1
  have hH6 := hS.2.1.2.1
  have hT2 : TK K (up2 R 25 18 (R 1 18)) n := TK_18 hT (by unfold isSt; omega)
  refine c_image (d := d + 37) hT (st_r14 hS) (nrm1 hS.1) h25 ⟨rfl, m_image (d := d + 39) hT2 ?_, midT hB ((up2_row (by decide)).trans (cpS_out (Or.inr (by decide))))⟩
  generalize hJ : up2 (cpS I 25 1) 0 3 (nI 1) = J
  have eI : ∀ q, q ≠ 0 → (q < 25 ∨ 37 ≤ q) → J q = I q := fun q r1 r2 => by rw [← hJ, up2_row r1, cpS_out (by omega)]
  have eK : ∀ k, k < 12 → J (25 + k) = I (1 + k) := fun k hk => by rw [← hJ, up2_row (by omega), cpS_in hk]
  have e0 : ∀ j, j ≠ 3 → J 0 j = I 0 j := fun j hj => by rw [← hJ, up2_same, if_neg hj, cpS_out (by omega)]
  generalize hM : up2 (upr (up2 J 318 0 (nI 0)) 320 (cpy 1332 ((up2 J 318 0 (nI 0)) 319) ((up2 J 318 0 (nI 0)) 320))) 318 6 (nI 1) = M
  have eM : ∀ q, q ≠ 318 → q ≠ 320 → M q = J q := fun q r1 r2 => by rw [← hM, up2_row r1, upr_ne r2, up2_row r1]
  have e318 : ∀ j, j ≠ 0 → j ≠ 6 → M 318 j = I 318 j := fun j r1 r2 => by rw [← hM, up2_same, if_neg r2, upr_ne (by decide), up2_same, if_neg r1, eI 318 (by decide) (by omega)]
  have e320 : ∀ j, j < 1332 → M 320 j = I 319 j := fun j hj => by rw [← hM, up2_row (by decide), upr_same, cpy_lt hj, up2_row (by decide), eI 319 (by decide) (by omega)]
  have e319 : M 319 = I 319 := by rw [eM 319 (by decide) (by decide), eI 319 (by decide) (by omega)]
  have eMl : ∀ q, 338 ≤ q → M q = I q := fun q hq => by rw [eM q (by omega) (by omega), eI q (by omega) (by omega)]
  have hRl : ∀ q, 338 ≤ q → up2 R 25 18 (R 1 18) q = R q := fun q hq => up2_row (by omega)
  refine voi_mk ⟨bas_mk hB hT2 eMl hRl (by rw [eM 44 (by decide) (by decide), eI 44 (by decide) (by omega)]), ⟨o, ro, H, ?_⟩, Or.inr ⟨?_, ?_, o, ro, H, ?_, ?_⟩, ?_, ?_, ?_, ?_, ?_⟩ (by omega) (by omega)
  · rw [e319]
    exact st_mv hS (by decide) (fun k hk => by rw [eM _ (by omega) (by omega), eI _ (by omega) (by omega)]) (by rw [up2_row (by decide)]) (fun q r1 _ => hRl q r1) (fun q r1 _ => eMl q r1)
  · rw [eM 0 (by decide) (by decide), ← hJ, up2_hit]
  · rw [← hM, up2_hit]
  · exact st_w (st_mv hS (by decide) (fun k hk => by rw [eM _ (by omega) (by omega), eK k hk]) up2_hit (fun q r1 _ => hRl q r1) (fun q r1 _ => eMl q r1)) e320
  · rw [up2_row (by decide)]; exact laD_me hS.2.2.1
  · exact tap_ag hTp (by rw [eM 0 (by decide) (by decide), e0 7 (by decide)]) (e318 9 (by decide) (by decide)) (by rw [eM 38 (by decide) (by decide), eI 38 (by decide) (by omega)]) (by rw [eM 324 (by decide) (by decide), eI 324 (by decide) (by omega)])
  · obtain ⟨p1, p2, p3, p4, p5⟩ := hP
    refine ⟨p, A, Ss, ⟨fun i hi => ?_, p2, p3, ?_, fun i hi => ?_⟩, ?_, fun i hi => ?_⟩
    · obtain ⟨r1, r2, r3⟩ := p1 i hi
      exact ⟨by rw [up2_row (by decide)]; exact r1, r2, Nrm_eq r3 (fun k hk => by rw [eM _ (by omega) (by omega), eI _ (by omega) (by omega)])⟩
    · rw [eM 0 (by decide) (by decide), e0 5 (by decide)]; exact p4
    · obtain ⟨r1, r2⟩ := p5 i hi
      obtain ⟨-, r3, -⟩ := p1 i (by omega)
      exact ⟨fun k hk => by rw [eM _ (by omega) (by omega), eI _ (by omega) (by omega)]; exact r1 k hk, by rw [up2_row (by omega), up2_row (by decide)]; exact r2⟩
    · rw [e318 7 (by decide) (by decide)]; exact hA
    · rw [eM 323 (by decide) (by decide), eI 323 (by decide) (by omega), e319]; exact hPs i hi
  · rw [eM 0 (by decide) (by decide), e0 8 (by decide), e318 14 (by decide) (by decide)]; exact h8
  · exact nrm_ag h13 (fun q r1 r2 => by rw [eM q (by omega) (by omega), eI q (by omega) (by omega)])
  · exact sim_nrm (sim_S hS.1 (S2 := vw 25 M) (fun k hk => by show M (25 + k) = I (1 + k); rw [eM _ (by omega) (by omega), eK k hk]))
theorem o_back {N d : Nat} {xs : Nat → Int32} {K : Nat → Nat × Nat} {I : Mem} {L : Nat → Nat → Int64} {R : Nat → Nat → Option Nat} {n s : Nat} (h : Sim N xs K I L R n) : Ok (d + 40) 60 [.ref 0] (K, I, L, R, n, s) (DirC N xs (d + 40) 214 [.ref 318] n s) := by
  obtain ⟨hB, ⟨o, ro, H, hS⟩, hK, hTp, ⟨p, A, Ss, hP, hA, hPs⟩, h8, h13, h25⟩ := id h
  have hT := hB.1
  have h338 := hT.2.2
  have hw := hS.2.1.1
  have hH6 := hS.2.1.2.1
  have hr25 : ¬ I 0 3 = nI 0 → I 25 14 = 0 ∨ I 25 14 = 1 := fun q => by
    rcases hK with ⟨q1, -⟩ | ⟨-, -, ok, rk, Hk, q3, -⟩
    · exact absurd q1 q
    · exact st_r14 q3
  refine c_back (d := d + 37) hT hr25 (nrm1 hS.1) h25 (fun hz => ⟨_, rfl, ?_, mid0 hB⟩) (fun hz => ⟨_, rfl, ?_, midT hB ((up2_row (by decide)).trans (cpS_out (Or.inr (by decide))))⟩)
  · rcases hK with ⟨-, q2⟩ | ⟨q1, -⟩
    · exact m_back0 (d := d + 39) hT q2 (dir_v h)
    · rw [hz] at q1; exact absurd q1 (by decide)
  · rcases hK with ⟨q1, -⟩ | ⟨q1, q2, ok, rk, Hk, q3, q4⟩
    · exact absurd q1 hz
    · have hT2 : TK K (up2 R 1 18 (R 25 18)) n := TK_18 hT (by unfold isSt; omega)
      generalize hJ : up2 (cpS I 1 25) 0 5 (nI 0) = J
      have eI : ∀ q, 13 ≤ q → J q = I q := fun q r1 => by rw [← hJ, up2_row (by omega), cpS_out (by omega)]
      have eK : ∀ k, k < 12 → J (1 + k) = I (25 + k) := fun k hk => by rw [← hJ, up2_row (by omega), cpS_in hk]
      have e0 : ∀ j, j ≠ 5 → J 0 j = I 0 j := fun j hj => by rw [← hJ, up2_same, if_neg hj, cpS_out (by omega)]
      have e05 : J 0 5 = nI 0 := by rw [← hJ, up2_hit]
      refine m_back1 (d := d + 39) hT2 (by rw [eI 318 (by decide)]; exact q2) ?_
      generalize hM : up2 (upr (up2 J 318 0 (nI 0)) 319 (cpy 1332 ((up2 J 318 0 (nI 0)) 320) ((up2 J 318 0 (nI 0)) 319))) 318 7 (nI 0) = M
      have eM : ∀ q, q ≠ 318 → q ≠ 319 → M q = J q := fun q r1 r2 => by rw [← hM, up2_row r1, upr_ne r2, up2_row r1]
      have e318 : ∀ j, j ≠ 0 → j ≠ 7 → M 318 j = I 318 j := fun j r1 r2 => by rw [← hM, up2_same, if_neg r2, upr_ne (by decide), up2_same, if_neg r1, eI 318 (by decide)]
      have e319 : ∀ j, j < 1332 → M 319 j = I 320 j := fun j hj => by rw [← hM, up2_row (by decide), upr_same, cpy_lt hj, up2_row (by decide), eI 320 (by decide)]
      have eMI : ∀ q, 13 ≤ q → q ≠ 318 → q ≠ 319 → M q = I q := fun q r1 r2 r3 => by rw [eM q r2 r3, eI q r1]
      have hRl : ∀ q, 338 ≤ q → up2 R 1 18 (R 25 18) q = R q := fun q hq => up2_row (by omega)
      refine dir_mk ⟨bas_mk hB hT2 (fun q hq => eMI q (by omega) (by omega) (by omega)) hRl (eMI 44 (by decide) (by decide) (by decide)), ⟨ok, rk, Hk, ?_⟩, Or.inr ⟨?_, ?_, ok, rk, Hk, ?_, ?_⟩, ?_, ⟨p, 0, Ss, ⟨fun i hi => ?_, hP.2.1, by decide, ?_, fun i hi => absurd hi (by omega)⟩, ?_, fun i hi => absurd hi (by omega)⟩, ?_, ?_, ?_⟩ (by omega) (by omega)
      · exact st_w (st_mv q3 (by decide) (fun k hk => by rw [eM _ (by omega) (by omega), eK k hk]) up2_hit (fun q r1 _ => hRl q r1) (fun q r1 _ => eMI q (by omega) (by omega) (by omega))) e319
      · rw [eM 0 (by decide) (by decide), e0 3 (by decide)]; exact q1
      · rw [e318 6 (by decide) (by decide)]; exact q2
      · rw [eMI 320 (by decide) (by decide) (by decide)]
        exact st_mv q3 (by decide) (fun k hk => eMI _ (by omega) (by omega) (by omega)) (by rw [up2_row (by decide)]) (fun q r1 _ => hRl q r1) (fun q r1 _ => eMI q (by omega) (by omega) (by omega))
      · rw [up2_hit]; exact laD_me q3.2.2.1
      · exact tap_ag hTp (by rw [eM 0 (by decide) (by decide), e0 7 (by decide)]) (e318 9 (by decide) (by decide)) (eMI 38 (by decide) (by decide) (by decide)) (eMI 324 (by decide) (by decide) (by decide))
      · obtain ⟨r1, r2, r3⟩ := hP.1 i hi
        exact ⟨by rw [up2_row (by decide)]; exact r1, r2, Nrm_eq r3 (fun k hk => eMI _ (by omega) (by omega) (by omega))⟩
      · rw [eM 0 (by decide) (by decide)]; exact e05
      · rw [← hM, up2_hit]
      · rw [eM 0 (by decide) (by decide), e0 8 (by decide), e318 14 (by decide) (by decide)]; exact h8
      · exact nrm_ag h13 (fun q r1 r2 => eMI q (by omega) (by omega) (by omega))
      · exact nrm_ag h25 (fun q r1 r2 => eMI q (by omega) (by omega) (by omega))
theorem o_end {N d : Nat} {xs : Nat → Int32} {K : Nat → Nat × Nat} {I : Mem} {L : Nat → Nat → Int64} {R : Nat → Nat → Option Nat} {n s : Nat} {x : Int32} (h : Sim N xs K I L R n) : Ok (d + 40) 13 [.ref 0, .int x] (K, I, L, R, n, s) (DirC N xs (d + 40) 217 [.ref 318, .int x] n s) := by
  obtain ⟨hB, ⟨o, ro, H, hS⟩, hK, hTp, ⟨p, A, Ss, hP, hA, hPs⟩, h8, h13, h25⟩ := id h
  have hT := hB.1
  have h338 := hT.2.2
  have hw := hS.2.1.1
  have hH6 := hS.2.1.2.1
  obtain ⟨T, tv, t1, t2, t3, t4, t5, t6⟩ := id hTp
  refine c_end (d := d + 39) hT (fun hx => ⟨_, rfl, ?_, mid0 hB⟩) (fun hx1 hx2 => ⟨_, rfl, ?_, midT hB (up2_row (by decide))⟩)
  · by_cases q : x < nI 0
    · exact m_endA (d := d + 39) hT q (dir_v h)
    · refine m_endB (d := d + 39) hT q ?_ (dir_v h)
      rcases hx with z | z
      · exact absurd z q
      · rw [t2, ← t1]; exact z
  · refine m_endC (d := d + 39) hT hx1 (by rw [up2_row (by decide), t2, ← t1]; exact hx2) ?_
    obtain ⟨a, ha, rfl⟩ := nI_of (show ¬ x < 0 from hx1)
    have hle : a ≤ T := by rw [t1] at hx2; exact ge_nI hx2 (by omega)
    generalize hM : up2 (up2 (up2 I 0 7 (nI a)) 318 0 (nI 0)) 318 9 (nI a) = M
    have eM : ∀ q, q ≠ 0 → q ≠ 318 → M q = I q := fun q r1 r2 => by rw [← hM, up2_row r2, up2_row r2, up2_row r1]
    have e0 : ∀ j, j ≠ 7 → M 0 j = I 0 j := fun j hj => by rw [← hM, up2_row (by decide), up2_row (by decide), up2_same, if_neg hj]
    have e3 : ∀ j, j ≠ 0 → j ≠ 9 → M 318 j = I 318 j := fun j r1 r2 => by rw [← hM, up2_same, if_neg r2, up2_same, if_neg r1, up2_row (by decide)]
    refine dir_mk (sim_fr h (fr_I (fun q r1 _ => eM q (by unfold Imp at r1; omega) (by unfold Imp at r1; omega)) (e0 3 (by decide)) (e0 5 (by decide)) (e3 6 (by decide) (by decide)) (e3 7 (by decide) (by decide)) (by rw [eM 44 (by decide) (by decide)])) (Nat.le_refl _) hB.2.2.2.2.2 ⟨a, tv, ?_, ?_, by omega, fun j hj => ?_, t5, ?_⟩ ?_ ?_) (by omega) (by omega)
    · rw [← hM, up2_row (by decide), up2_row (by decide), up2_hit]
    · rw [← hM, up2_hit]
    · rw [eM 38 (by decide) (by decide)]; exact t4 j hj
    · rw [eM 324 (by decide) (by decide)]; exact t6
    · rw [e0 8 (by decide), e3 14 (by decide) (by decide)]; exact h8
    · exact nrm_ag h13 (fun q r1 r2 => eM q (by omega) (by omega))
