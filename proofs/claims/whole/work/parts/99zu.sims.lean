/-! PAIRS: the law -/
theorem laD_n (oo : LawT) : LaD oo none := by
  cases oo
  · trivial
  · exact fun la q => by cases q
theorem sim_319 {N : Nat} {xs : Nat → Int32} {K : Nat → Nat × Nat} {I : Mem} {L : Nat → Nat → Int64} {R : Nat → Nat → Option Nat} {n : Nat} {w : Nat → Int32} (h : Sim N xs K I L R n) (e : ∀ j, j < 1332 → w j = I 319 j) : Sim N xs K (upr I 319 w) L R n := by
  obtain ⟨hB, ⟨o, ro, H, hS⟩, hK, hTp, ⟨p, A, Ss, hP, hA, hPs⟩, h8, h13, h25⟩ := h
  generalize hM : upr I 319 w = M
  have eM : ∀ a, a ≠ 319 → M a = I a := fun a ha => by rw [← hM, upr_ne ha]
  have e9 : M 319 = w := by rw [← hM, upr_same]
  have el : ∀ a, 338 ≤ a → a < n → offR none a → M a = I a := fun a q _ _ => eM a (by omega)
  refine ⟨bas_mk hB hB.1 (fun a ha => eM a (by omega)) (fun _ _ => rfl) (eM 44 (by decide)), ⟨o, ro, H, ?_⟩, ?_, ?_, ⟨p, A, Ss, ?_, ?_, fun i hi => ?_⟩, ?_, ?_, ?_⟩
  · rw [e9]
    exact st_w (st_fr hS (laD_n o) (Nat.le_refl _) (fun _ _ => rfl) rfl (fun _ _ _ => rfl) el (fun k hk => eM _ (by omega))) e
  · rcases hK with ⟨q1, q2⟩ | ⟨q1, q2, ok, rk, Hk, q3, q4⟩
    · exact Or.inl ⟨by rw [eM 0 (by decide)]; exact q1, by rw [eM 318 (by decide)]; exact q2⟩
    · refine Or.inr ⟨by rw [eM 0 (by decide)]; exact q1, by rw [eM 318 (by decide)]; exact q2, ok, rk, Hk, ?_, q4⟩
      rw [eM 320 (by decide)]
      exact st_fr q3 (laD_n ok) (Nat.le_refl _) (fun _ _ => rfl) rfl (fun _ _ _ => rfl) el (fun k hk => eM _ (by omega))
  · exact tap_ag hTp (by rw [eM 0 (by decide)]) (by rw [eM 318 (by decide)]) (eM 38 (by decide)) (eM 324 (by decide))
  · exact past_ag hP (fun a _ _ => eM a (by omega)) (by rw [eM 0 (by decide)])
  · rw [eM 318 (by decide)]; exact hA
  · rw [eM 323 (by decide), e9, e 2 (by decide)]; exact hPs i hi
  · rw [eM 0 (by decide), eM 318 (by decide)]; exact h8
  · exact nrm_ag h13 (fun a _ _ => eM a (by omega))
  · exact nrm_ag h25 (fun a _ _ => eM a (by omega))
/-- a text was read and nothing came of it -/
theorem sim_te {N : Nat} {xs : Nat → Int32} {K : Nat → Nat × Nat} {I F M : Mem} {L : Nat → Nat → Int64} {R R2 : Nat → Nat → Option Nat} {n k : Nat} {v : Int32} (h : Sim N xs K I L R n) (hF : ∀ a, (1 ≤ a ∧ a < 13) ∨ (25 ≤ a ∧ a < 39) ∨ 46 ≤ a → F a = I a) (h44 : F 44 0 = I 44 0) (f0 : ∀ j, j ≠ 7 → j ≠ 8 → F 0 j = I 0 j) (f7 : F 0 7 = nI 0) (f8 : F 0 8 = v) (h13 : Nrm (vw 13 F)) (hR : ∀ a j, ¬ (a = 13 ∧ j = 18) → R2 a j = R a j) (hb : BgE k v F M) : Sim N xs K M L R2 n := by
  have hB := h.1
  obtain ⟨-, -, -, ⟨T, tv, t1, t2, t3, t4, t5, t6⟩, -, -, -, -⟩ := id h
  obtain ⟨b1, b2, b3, b4, b5, b6⟩ := hb
  generalize hM0 : upr M 319 (I 319) = M0
  have eM : ∀ a, a ≠ 319 → M0 a = M a := fun a ha => by rw [← hM0, upr_ne ha]
  have e9 : M0 319 = I 319 := by rw [← hM0, upr_same]
  have eI : ∀ a, (1 ≤ a ∧ a < 13) ∨ (25 ≤ a ∧ a < 39) ∨ (46 ≤ a ∧ a ≠ 318 ∧ a ≠ 321) → M0 a = I a := fun a ha => by
    by_cases q : a = 319
    · rw [q]; exact e9
    · rw [eM a q, b1 a (by omega) q (by omega), hF a (by omega)]
  have m0 : ∀ j, M0 0 j = F 0 j := fun j => by rw [eM 0 (by decide), b1 0 (by decide) (by decide) (by decide)]
  have m3 : ∀ j, (j = 6 ∨ j = 7) → M0 318 j = I 318 j := fun j hj => by rw [eM 318 (by decide), b2 j hj, hF 318 (by omega)]
  have hs : Sim N xs K M0 L R2 n := by
    refine sim_fr h ⟨fun _ _ => rfl, fun a q _ _ => eI a (by unfold Imp at q; omega), ⟨by rw [m0, f0 3 (by decide) (by decide)], by rw [m0, f0 5 (by decide) (by decide)], m3 6 (Or.inl rfl), m3 7 (Or.inr rfl), by rw [eM 44 (by decide), b1 44 (by decide) (by decide) (by decide)]; exact h44⟩, fun _ _ => rfl, fun a j q _ => hR a j q⟩ (Nat.le_refl _) hB.2.2.2.2.2 ⟨0, tv, ?_, ?_, by decide, fun j hj => ?_, t5, ?_⟩ ?_ ?_
    · rw [m0]; exact f7
    · rw [eM 318 (by decide)]; exact b4
    · rw [eI 38 (by omega)]; exact t4 j hj
    · rw [eI 324 (by omega)]; exact t6
    · rw [m0, f8, eM 318 (by decide), b5]
    · exact nrm_ag h13 (fun a q1 q2 => by rw [eM a (by omega), b1 a (by omega) (by omega) (by omega)])
  have := sim_319 (w := M 319) hs (fun j hj => by rw [e9, b6 j hj, hF 319 (by omega)])
  rw [← hM0, upr_upr, upr_id] at this
  exact this
theorem lawL_44 {tv : Nat → Nat} {T : Nat} : ∀ f i I st p, (lawL tv T f i I st p).2.1 44 0 = I 44 0 := by
  intro f
  induction f with
  | zero => intro i I st p; rfl
  | succ f ih =>
    intro i I st p
    have hh : ∀ i k v, hedM I i k v 44 0 = I 44 0 := fun i k v => by unfold hedM; rw [up2_row (by decide), up2_row (by decide)]
    have hl : ∀ (J : Mem) i z, linM J i z 44 0 = J 44 0 := fun J i z => by unfold linM; rw [up2_same, if_neg (by omega), up2_row (by decide)]
    unfold lawL
    cases hedF tv T p with
    | inl z => rfl
    | inr x =>
      dsimp only
      split
      · split
        · show linM (hedM I i x.1 x.2.1) i (cndF tv T st x.2.2).2.1.2 44 0 = _
          rw [hl, hh]
        · split
          · rw [ih, hl, hh]
          · show linM (hedM I i x.1 x.2.1) i (cndF tv T st x.2.2).2.1.2 44 0 = _
            rw [hl, hh]
      · show hedM I i x.1 x.2.1 44 0 = _
        rw [hh]
theorem lawA_44 {tv : Nat → Nat} {T p : Nat} {I : Mem} : (lawA tv T I p).2.1 44 0 = I 44 0 := by
  unfold lawA
  split
  · show up2 I 41 5 (nI 0) 44 0 = _
    rw [up2_row (by decide)]
  · rw [lawL_44, up2_row (by decide)]
/-- what the class's reading of a law leaves -/
theorem lw_fr {I J : Mem} {tv : Nat → Nat} {T q : Nat} {st : Sz} {b : Bool} {v : Int32} (e : lwR I tv T = (b, J, st, q)) : (∀ a, (1 ≤ a ∧ a < 39) ∨ a = 40 ∨ 46 ≤ a → up2 (lw J st q) 0 8 v a = I a) ∧ up2 (lw J st q) 0 8 v 44 0 = I 44 0 ∧ (∀ j, j ≠ 7 → j ≠ 8 → up2 (lw J st q) 0 8 v 0 j = I 0 j) ∧ up2 (lw J st q) 0 8 v 0 7 = nI 0 ∧ up2 (lw J st q) 0 8 v 0 8 = v := by
  unfold lwR at e
  have h1 := (lawA_in e).1
  have hlo : ∀ a, a ≠ 39 → a ≠ 41 → a ≠ 45 → lw J st q a = J a := fun a q1 q2 q3 => by
    unfold lw; rw [rdM_o q1]; exact lw0_o q3 q2
  have hB : ∀ a, a ≠ 0 → a ≠ 39 → B0 I T a = I a := fun a q1 q2 => by unfold B0; rw [up2_row q2, up2_row q1]
  have h0 : ∀ j, lw J st q 0 j = B0 I T 0 j := fun j => by rw [hlo 0 (by decide) (by decide) (by decide), h1 0 (by decide) (by decide) (by decide) (by decide)]
  refine ⟨fun a ha => ?_, ?_, fun j q1 q2 => ?_, ?_, up2_hit⟩
  · rw [up2_row (by omega), hlo a (by omega) (by omega) (by omega), h1 a (by omega) (by omega) (by omega) (by omega), hB a (by omega) (by omega)]
  · rw [up2_row (by decide), hlo 44 (by decide) (by decide) (by decide)]
    have := lawA_44 (tv := tv) (T := T) (p := skp tv T 0) (I := B0 I T)
    rw [e] at this
    rw [show J 44 0 = B0 I T 44 0 from this, hB 44 (by decide) (by decide)]
  · rw [up2_same, if_neg q2, h0]; unfold B0; rw [up2_row (by decide), up2_same, if_neg q1]
  · rw [up2_same, if_neg (by decide), h0]; unfold B0; rw [up2_row (by decide), up2_hit]
theorem lw_45 {J : Mem} {st : Sz} {q : Nat} {v : Int32} : up2 (lw J st q) 0 8 v 45 = st.1 ∧ ∀ a, (a = 42 ∨ a = 43 ∨ a = 44) → up2 (lw J st q) 0 8 v a = J a := by
  constructor
  · rw [up2_row (by decide)]; unfold lw; rw [rdM_o (by decide)]; unfold lw0; rw [up2_row (by decide), upr_same]
  · intro a ha
    rw [up2_row (by omega)]; unfold lw; rw [rdM_o (by omega)]; exact lw0_o (by omega) (by omega)
theorem o_law {N d : Nat} {xs : Nat → Int32} {K : Nat → Nat × Nat} {I : Mem} {L : Nat → Nat → Int64} {R : Nat → Nat → Option Nat} {n s : Nat} (h : Sim N xs K I L R n) (hn : n + 6 ≤ lmCells) (hs : s + 876 ≤ lmSlots) : Ok (d + 40) 95 [.ref 0, .ref 337] (K, I, L, R, n, s) (AftC N xs (d + 40) 254 [.ref 318] n s false) := by
  obtain ⟨hB, ⟨o, ro, H, hS⟩, hK, hTp, ⟨p, A, Ss, hP, hA, hPs⟩, h8, h13, h25⟩ := id h
  have hT := hB.1
  have h338 := hT.2.2
  have hw := hS.2.1.1
  have hH6 := hS.2.1.2.1
  have hTe := fun ci => tk_ex (ci := ci) hT hB.2.2.2.2.2
  have hwe : upr I n (fun _ => (0 : Int32)) 319 0 = nI H := by rw [upr_ne (by omega)]; exact hw
  obtain ⟨T, tv, t1, t2, t3, t4, t5, t6⟩ := id hTp
  have hb : lmCells < lmB := by decide
  have h44 : B0 I T 44 0 = nI 0 := by unfold B0; rw [up2_row (by decide), up2_row (by decide)]; exact hB.2.2.2.2.1.2
  refine w_law (d := d + 38) (TK.k1 hT rfl) ?_
  refine c_law (d := d + 11) hT (by omega) (by omega) t1 t3 t4 t5 hB.2.2.1 (fun J st q e => ?_) (fun J st q m K2 I2 L2 R2 e hm5 hm12 hz hN => ?_)
  · obtain ⟨f1, f2, f3, f4, f5⟩ := lw_fr (v := nI q) e
    have hx := sim_ex (ci := 14) h (by omega)
    generalize hF : up2 (lw J st q) 0 8 (nI q) = F at *
    have eF : ∀ a, a ≠ n → upr F n (fun _ => (0 : Int32)) a = F a := fun a ha => upr_ne ha
    refine wrq_e1 (mide_of hB (f1 lmScr (Or.inr (Or.inr (by decide))))) (m_lawE (d := d + 9) (hTe 14) ?_ t3 ?_ (SS_off hx.1.2.2.1 (fun a ha => by rw [upr_ne (by omega), upr_ne (by omega)]; exact f1 a (by unfold lmB at ha; omega))) h44 e rfl (fun M hM => ?_))
    · rw [eF 318 (by omega), f1 318 (by omega)]; exact t2
    · rw [eF 324 (by omega), f1 324 (by omega)]; exact t6
    · refine aft_mkE (sim_te hx (fun a ha => ?_) ?_ (fun j q1 q2 => ?_) ?_ ?_ ?_ (fun _ _ _ => rfl) hM) hM.2.2.1 (by decide) (by omega) (by omega)
      · by_cases z : a = n
        · rw [z, upr_same, upr_same]
        · rw [upr_ne z, upr_ne z]; exact f1 a (by omega)
      · rw [upr_ne (by omega), upr_ne (by omega)]; exact f2
      · rw [upr_ne (by omega), upr_ne (by omega)]; exact f3 j q1 q2
      · rw [upr_ne (by omega)]; exact f4
      · rw [upr_ne (by omega)]; exact f5
      · exact nrm_ag h13 (fun a q1 q2 => by rw [upr_ne (by omega)]; exact f1 a (by omega))
  · obtain ⟨f1, f2, f3, f4, f5⟩ := lw_fr (v := -1) e
    obtain ⟨g1, g2⟩ := lw_45 (J := J) (st := st) (q := q) (v := -1)
    obtain ⟨m2, bg, w1, w2, w3, w4, w5⟩ := lawA_wf t3 h44 (skp_ge (tv := tv) (p := 0) (Nat.zero_le T)).2 (show (lawA tv T (B0 I T) (skp tv T 0)).1 = true from by rw [show lawA tv T (B0 I T) (skp tv T 0) = _ from e])
    rw [show lawA tv T (B0 I T) (skp tv T 0) = _ from e] at w2 w3 w4 w5
    dsimp only at w2 w3 w4 w5
    obtain rfl : m = m2 := eq_nI (hm5.symm.trans w2) (by omega) (by omega)
    have hT2 : TK (up1 K n (7, 0)) (upr R n (fun _ => none)) (n + 1) := ⟨fun a k hk => by have := k0_338 hk; rw [up1_ne (by omega)]; exact hT.1 a k hk, fun a j x hx => by have := r0_338 hx; rw [upr_ne (by omega)]; exact hT.2.1 a j x hx, by omega⟩
    have hT3 : TK K2 R2 (n + 1 + 5) := TK_lawNew (la := n) hT2 (Nat.le_refl _) hN h338
    obtain ⟨hN1, hN2, ⟨kn1, kn2, kn3, kn4, kn5⟩, ⟨rn1, rn2, rn3, rn4, rn5⟩, in1, in2, in3, in4⟩ := hN
    generalize hF : up2 (lw J st q) 0 8 (-1) = F at *
    have hT4 : TK K2 (up2 R2 1 18 (some n)) (n + 1 + 5) := TK_18 hT3 (by unfold isSt; omega)
    have eI2 : ∀ a, a < n ∨ lmB ≤ a → I2 a = F a := fun a ha => by rw [((hN1 a (by omega)).2.2 (by omega)).1, upr_ne (by omega)]
    have eK2 : ∀ a, a < n ∨ lmB ≤ a → K2 a = K a := fun a ha => by rw [(hN1 a (by omega)).1, up1_ne (by omega)]
    have eL2 : ∀ a, a < n ∨ lmB ≤ a → L2 a = L a := fun a ha => by rw [(hN1 a (by omega)).2.1, upr_ne (by omega)]
    have eR2 : ∀ a, a < n ∨ lmB ≤ a → R2 a = R a := fun a ha => by rw [((hN1 a (by omega)).2.2 (by omega)).2, upr_ne (by omega)]
    have hKn : K2 n = (7, 0) := by rw [(hN1 n (by omega)).1, up1_hit]
    generalize hG : up2 I2 0 5 (nI 0) = G
    have eG : ∀ a, a ≠ 0 → G a = I2 a := fun a ha => by rw [← hG, up2_row ha]
    have eGI : ∀ a, (1 ≤ a ∧ a < 39) ∨ a = 40 ∨ (46 ≤ a ∧ a < n) ∨ lmB ≤ a → G a = I a := fun a ha => by rw [eG a (by omega), eI2 a (by omega)]; exact f1 a (by omega)
    have hSS2 : SS K2 G (up2 R2 1 18 (some n)) := fun i hi => by
      obtain ⟨s1, s2, s3, s4, s5⟩ := hB.2.2.1 i hi
      rw [eK2 _ (by omega), eK2 _ (by omega), up2_row (by unfold lmB; omega), eR2 _ (by omega), eGI _ (by omega), eGI _ (by omega)]
      exact ⟨s1, s2, s3, s4, s5⟩
    refine wrq_v hT4 ⟨by rw [eK2 lmScr (Or.inr (by decide))]; exact hB.2.2.2.1, fun j => by rw [eGI lmScr (Or.inr (Or.inr (Or.inr (by decide))))]; exact hB.2.2.2.2.1.1 j, TK.k1 hT4 rfl⟩ (m_lawY (d := d + 9) hT4 (by rw [eGI 318 (by omega)]; exact t2) t3 (by rw [eGI 324 (by omega)]; exact t6) hSS2 h44 e rfl (fun c M hc hc5 hM => ?_))
    obtain rfl : m = c := eq_nI (hm5.symm.trans hc5) (by omega) (by omega)
    obtain ⟨l1, l2, l3, l4, l5, l6, l7, l8, l9⟩ := hM
    dsimp only at l9
    have eMI : ∀ a, ((1 ≤ a ∧ a < 39) ∨ a = 40 ∨ (46 ≤ a ∧ a < n) ∨ lmB ≤ a) → a ≠ 318 → a ≠ 319 → M a = I a := fun a ha q1 q2 => by rw [l1 a q1 q2]; exact eGI a ha
    have eMn : ∀ a, n ≤ a → a < n + 6 → M a = I2 a := fun a q1 q2 => by rw [l1 a (by omega) (by omega), eG a (by omega)]
    have e319 : ∀ j, j < 483 → j ≠ 2 → M 319 j = I 319 j := fun j q1 q2 => by rw [l7 j q1 q2, eGI 319 (by omega)]
    have eM0 : ∀ j, j ≠ 5 → j ≠ 7 → j ≠ 8 → M 0 j = I 0 j := fun j q1 q2 q3 => by rw [l1 0 (by decide) (by decide), ← hG, up2_same, if_neg q1, eI2 0 (by omega)]; exact f3 j q2 q3
    have eM07 : M 0 7 = nI 0 := by rw [l1 0 (by decide) (by decide), ← hG, up2_same, if_neg (by decide), eI2 0 (by omega)]; exact f4
    have eM08 : M 0 8 = -1 := by rw [l1 0 (by decide) (by decide), ← hG, up2_same, if_neg (by decide), eI2 0 (by omega)]; exact f5
    have eM05 : M 0 5 = nI 0 := by rw [l1 0 (by decide) (by decide), ← hG, up2_hit]
    have eIn : ∀ a, a ≠ n → upr F n (fun _ => (0 : Int32)) a = F a := fun a ha => upr_ne ha
    rw [eIn 42 (by omega), g2 42 (by decide)] at in1
    rw [eIn 43 (by omega), g2 43 (by decide)] at in2
    rw [eIn 44 (by omega), g2 44 (by decide)] at in3
    rw [eIn 45 (by omega), g1] at in4
    have hLS : LawS M n m st.2 bg (M 319) := lawS_mk w3 w4 w5 l9 (fun j hj => by rw [eMn (n + 1) (by omega) (by omega)]; exact in1 j hj) (fun j hj => by rw [eMn (n + 2) (by omega) (by omega)]; exact in2 j hj) (fun j hj => by rw [eMn (n + 4) (by omega) (by omega)]; exact in4 j hj)
    have hLn : ∀ a, 338 ≤ a → a < n → offR none a → M a = I a := fun a q1 q2 _ => eMI a (by omega) (by omega) (by omega)
    have hRl : ∀ a, 338 ≤ a → a < n → up2 R2 1 18 (some n) a = R a := fun a q1 q2 => by rw [up2_row (by omega), eR2 a (by omega)]
    refine aft_mk ⟨⟨hT4, ⟨fun k hk => ?_, fun k j hk => ?_⟩, fun i hi => ?_, ?_, ⟨fun j => ?_, ?_⟩, by omega⟩, ⟨some (n, m, st.2, bg), some (m, bg, fun l => bg (l + 1)), H, ?_, ?_, ⟨up2_hit, ⟨?_, ?_, ?_, ?_, ?_, ?_, ?_, ?_, ?_, ?_, ?_, by omega, hm12, hz⟩, ⟨?_, fun l hl => ?_, fun l hl => (w3.2 l hl).1, w5⟩, Or.inr (by omega)⟩, h338, ⟨rfl, rfl, rfl, hLS, Or.inr (by omega)⟩, lawW_ro hm12 l8 w3 w4 w5 l9, fun l hl => ?_⟩, ?_, ⟨0, tv, eM07, l5, by decide, fun j hj => ?_, t5, ?_⟩, ⟨p, 0, Ss, ⟨fun i hi => ?_, hP.2.1, by decide, eM05, fun i hi => absurd hi (by omega)⟩, l3, fun i hi => absurd hi (by omega)⟩, by rw [eM08, l6], ?_, ?_⟩ l4 (by omega) (by omega)
    · rw [eK2 _ (by omega)]; exact hB.2.1.1 k hk
    · rw [up_lmB _ (by omega), eL2 _ (by omega)]; exact hB.2.1.2 k j hk
    · obtain ⟨s1, s2, s3, s4, s5⟩ := hSS2 i hi
      refine ⟨s1, s2, s3, fun j => ?_, fun j => ?_⟩
      · rw [l1 _ (by unfold lmB; omega) (by unfold lmB; omega)]; exact s4 j
      · rw [l1 _ (by unfold lmB; omega) (by unfold lmB; omega)]; exact s5 j
    · rw [eK2 _ (by unfold lmScr; omega)]; exact hB.2.2.2.1
    · rw [eMI lmScr (by unfold lmScr; omega) (by unfold lmScr lmB; omega) (by unfold lmScr lmB; omega)]; exact hB.2.2.2.2.1.1 j
    · rw [l1 44 (by decide) (by decide), eG 44 (by decide), eI2 44 (by omega), f2]; exact hB.2.2.2.2.1.2
    · exact sim_w (sim_S hS.1 (fun k hk => by show M (1 + k) = I (1 + k); exact eMI _ (by omega) (by omega) (by omega))) e319
    · exact wb_ag (fun j q1 _ q2 => e319 j (by omega) q2) hS.2.1
    · rw [hKn]
    · exact kn1
    · exact kn2
    · exact kn3
    · exact kn4
    · exact kn5
    · rw [up2_row (by omega)]; exact rn1
    · rw [up2_row (by omega)]; exact rn2
    · rw [up2_row (by omega)]; exact rn3
    · rw [up2_row (by omega)]; exact rn4
    · rw [up2_row (by omega)]; exact rn5
    · rw [eMn n (by omega) (by omega)]; exact hN2
    · rw [eMn (n + 3) (by omega) (by omega), in3 l (by omega)]; exact w3.1 l hl
    · obtain ⟨-, -, -, v, v1, v2⟩ := w3.2 l hl
      rw [(l9.2.1 l hl).2.1, v2]; exact ⟨v, v1, rfl⟩
    · rcases hK with ⟨q1, q2⟩ | ⟨q1, q2, ok, rk, Hk, q3, q4⟩
      · exact Or.inl ⟨by rw [eM0 3 (by decide) (by decide) (by decide)]; exact q1, by rw [l2, eGI 318 (by omega)]; exact q2⟩
      · refine Or.inr ⟨by rw [eM0 3 (by decide) (by decide) (by decide)]; exact q1, by rw [l2, eGI 318 (by omega)]; exact q2, ok, rk, Hk, ?_, ?_⟩
        · rw [eMI 320 (by omega) (by decide) (by decide)]
          exact st_fr q3 (laD_n ok) (by omega) (fun a ha => eK2 a (by omega)) (by rw [up2_row (by decide), eR2 25 (by omega)]) hRl hLn (fun k hk => eMI _ (by omega) (by omega) (by omega))
        · rw [up2_hit]
          match ok, q3.2.2.1 with
          | none, _ => trivial
          | some z, hz3 => exact fun la e2 => by cases e2; exact Or.inr (Or.inl hz3.2.1.2.2.2.2.2.2.2.2.2.2.2.1)
    · rw [eMI 38 (by omega) (by decide) (by decide)]; exact t4 j hj
    · rw [eMI 324 (by omega) (by decide) (by decide)]; exact t6
    · obtain ⟨r1, r2, r3⟩ := hP.1 i hi
      exact ⟨by rw [up2_row (by decide), eR2 37 (by omega)]; exact r1, r2, Nrm_eq r3 (fun k hk => eMI _ (by omega) (by omega) (by omega))⟩
    · exact nrm_ag h13 (fun a q1 q2 => eMI a (by omega) (by omega) (by omega))
    · exact nrm_ag h25 (fun a q1 q2 => eMI a (by omega) (by omega) (by omega))
