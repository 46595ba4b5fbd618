/-! PAIRS: rights, trades, the sky, days -/
theorem or_bit {x : Int32} {c : Nat} (hc : c < 25) : x &&& (jshl (nI 1) (nI c) ^^^ (-1)) ||| jshl (nI 1) (nI c) = x ||| jshl (nI 1) (nI c) := b_ext (fun i hi => by
  rw [b_or, b_or, b_and, bt_nt hi, bt_s1 c (by omega) i hi]
  cases btI x i <;> cases decide (i = c) <;> rfl)
theorem eq_or {x : Int32} {c : Nat} (hc : c < 25) : x = x ||| jshl (nI 1) (nI c) ↔ hasP x c := by
  rw [hasP_bt (by omega)]
  constructor
  · intro e
    rw [e, b_or, bt_s1 c (by omega) c (by omega), decide_eq_true rfl, Bool.or_true]
  · intro e
    refine b_ext (fun i hi => ?_)
    rw [b_or, bt_s1 c (by omega) i hi]
    by_cases q : i = c
    · subst q; rw [e, Bool.true_or]
    · rw [decide_eq_false q, Bool.or_false]
theorem eq_and {x : Int32} {c : Nat} (hc : c < 25) : x = x &&& (jshl (nI 1) (nI c) ^^^ (-1)) ↔ ¬ hasP x c := by
  rw [hasP_bt (by omega)]
  constructor
  · intro e q
    rw [e, b_and, bt_nt (by omega), bt_s1 c (by omega) c (by omega), decide_eq_true rfl, Bool.not_true, Bool.and_false] at q
    cases q
  · intro e
    refine b_ext (fun i hi => ?_)
    rw [b_and, bt_nt hi, bt_s1 c (by omega) i hi]
    by_cases q : i = c
    · subst q
      cases w : btI x i
      · rfl
      · exact absurd w e
    · rw [decide_eq_false q, Bool.not_false, Bool.and_true]
theorem z_01 {p : Prop} [Decidable p] : (if (if p then nI 0 else nI 1) = nI 0 then (0 : Int64) else 1) = if p then 0 else 1 := by
  by_cases e : p
  · rw [if_pos e, if_pos e, if_pos rfl]
  · rw [if_neg e, if_neg e, if_neg (by decide)]
theorem off_scr {N : Nat} {xs : Nat → Int32} {K : Nat → Nat × Nat} {I : Mem} {L : Nat → Nat → Int64} {R : Nat → Nat → Option Nat} {n : Nat} {o : LawT} {w : Nat → Int32} {ro : RwT} {H : Nat} (hB : BasR N xs K I L R n) (hS : StR K R n I 1 o w ro H) : offR (R 1 18) lmScr := fun la q => by
  have h1 := lo_la hS.2.2.1 hS.2.2.2.1 q
  have h2 := hB.2.2.2.2.2
  have hb : lmCells < lmB := by decide
  have hs : lmB ≤ lmScr := Nat.le_add_right _ _
  omega
theorem o_right1 {N d : Nat} {xs : Nat → Int32} {K : Nat → Nat × Nat} {I : Mem} {L : Nat → Nat → Int64} {R : Nat → Nat → Option Nat} {n s : Nat} {x z : Int32} (h : Sim N xs K I L R n) (hn : n + 6 ≤ lmCells) (hs : s + 876 ≤ lmSlots) : Ok (d + 40) 139 [.ref 0, .int x, .int z, .int (nI 1), .ref 337] (K, I, L, R, n, s) (AftC N xs (d + 40) 302 [.ref 318, .int x, .int z, .int (nI 1)] n s true) := by
  obtain ⟨hB, ⟨o, ro, H, hS⟩, hK, hTp, ⟨p, A, Ss, hP, hA, hPs⟩, h8, h13, h25⟩ := id h
  have hT := hB.1
  have h338 := hT.2.2
  have hA12 := hP.2.2.1
  have hTe := fun ci => tk_ex (ci := ci) hT hB.2.2.2.2.2
  have hw := hS.2.1.1
  have hH6 := hS.2.1.2.1
  have hwe : upr I n (fun _ => (0 : Int32)) 319 0 = nI H := by rw [upr_ne (by omega)]; exact hw
  refine w_right (d := d + 38) (TK.k1 hT rfl) ?_
  refine c_right (d := d + 35) (b := True) hT (by omega) (by omega) hP (st_r14 hS) (nrm1 hS.1) (st_H hS) hH6 (fun hx => ?_) (fun k c hk hc hx hz J R2 p2 hT2 hkp hP2 => ?_)
  · exact wrz_e1 (mide hB) (m_rightE (d := d + 35) (hTe 16) hwe hH6 hx (aft_e h hn (by decide)))
  · subst hx hz
    have hs1 := kp_sim hS.1 hkp
    have e319 : rightM J k c True 319 = I 319 := by unfold rightM; rw [up2_row (by decide)]; exact hkp.1 319 (by decide) (by decide)
    have e9 : J 10 k = I 319 (159 + 4 * k + 3) := sim_h9 hs1 (by omega)
    refine wrz_v hT2 (mid_of hB ((up2_row (by decide)).trans (hkp.1 lmScr (by decide) (by decide)))) ?_
    refine m_right1 (d := d + 35) (A := A) (H := H) hT2 (by rw [e319]; exact hw) hH6 ?_ hA12 hk hc (fun J3 a3 => ?_)
    · unfold rightM; rw [up2_row (by decide), hkp.1 318 (by decide) (by decide)]; exact hA
    · rw [e319, or_bit hc] at a3 ⊢
      refine ⟨_, rfl, a3.2.2.1, fun _ => ?_, sim_act (H2 := H) h hS hA12 hPs hT2 hkp hP2 (fun a q _ => up2_row (by omega)) a3 ?_ (wb_rt hS.2.1 hk) (fun j hj => up1_ne (by omega)) (up1_ne (by omega)) up_lmB, by show n ≤ n + 6; omega, by show s ≤ s + 876; omega⟩
      · refine lh.trans ?_
        rw [cond_true, show vw 1 J 9 k = I 319 (159 + 4 * k + 3) from e9]
        unfold rightV
        rw [z_01, z_01]
        by_cases q : hasP (I 319 (159 + 4 * k + 3)) c
        · rw [if_pos q, if_pos ((eq_or hc).mpr q), if_pos trivial, if_pos rfl]
        · rw [if_neg q, if_neg (fun e => q ((eq_or hc).mp e)), if_pos trivial, if_neg (by decide)]
      · refine sim_putv (b := 1) (k := 9) hs1 (by decide) (inS_6 (by decide) (by decide) (by omega)) (by omega) ?_
        rw [if_pos trivial, e9]
theorem o_right0 {N d : Nat} {xs : Nat → Int32} {K : Nat → Nat × Nat} {I : Mem} {L : Nat → Nat → Int64} {R : Nat → Nat → Option Nat} {n s : Nat} {x z : Int32} (h : Sim N xs K I L R n) (hn : n + 6 ≤ lmCells) (hs : s + 876 ≤ lmSlots) : Ok (d + 40) 139 [.ref 0, .int x, .int z, .int (nI 0), .ref 337] (K, I, L, R, n, s) (AftC N xs (d + 40) 302 [.ref 318, .int x, .int z, .int (nI 0)] n s true) := by
  obtain ⟨hB, ⟨o, ro, H, hS⟩, hK, hTp, ⟨p, A, Ss, hP, hA, hPs⟩, h8, h13, h25⟩ := id h
  have hT := hB.1
  have h338 := hT.2.2
  have hA12 := hP.2.2.1
  have hTe := fun ci => tk_ex (ci := ci) hT hB.2.2.2.2.2
  have hw := hS.2.1.1
  have hH6 := hS.2.1.2.1
  have hwe : upr I n (fun _ => (0 : Int32)) 319 0 = nI H := by rw [upr_ne (by omega)]; exact hw
  refine w_right (d := d + 38) (TK.k1 hT rfl) ?_
  refine c_right (d := d + 35) (b := False) hT (by omega) (by omega) hP (st_r14 hS) (nrm1 hS.1) (st_H hS) hH6 (fun hx => ?_) (fun k c hk hc hx hz J R2 p2 hT2 hkp hP2 => ?_)
  · exact wrz_e1 (mide hB) (m_rightE (d := d + 35) (hTe 16) hwe hH6 hx (aft_e h hn (by decide)))
  · subst hx hz
    have hs1 := kp_sim hS.1 hkp
    have e319 : rightM J k c False 319 = I 319 := by unfold rightM; rw [up2_row (by decide)]; exact hkp.1 319 (by decide) (by decide)
    have e9 : J 10 k = I 319 (159 + 4 * k + 3) := sim_h9 hs1 (by omega)
    refine wrz_v hT2 (mid_of hB ((up2_row (by decide)).trans (hkp.1 lmScr (by decide) (by decide)))) ?_
    refine m_right0 (d := d + 35) (A := A) (H := H) hT2 (by rw [e319]; exact hw) hH6 ?_ hA12 hk hc (fun J3 a3 => ?_)
    · unfold rightM; rw [up2_row (by decide), hkp.1 318 (by decide) (by decide)]; exact hA
    · rw [e319, or_n0] at a3 ⊢
      refine ⟨_, rfl, a3.2.2.1, fun _ => ?_, sim_act (H2 := H) h hS hA12 hPs hT2 hkp hP2 (fun a q _ => up2_row (by omega)) a3 ?_ (wb_rt hS.2.1 hk) (fun j hj => up1_ne (by omega)) (up1_ne (by omega)) up_lmB, by show n ≤ n + 6; omega, by show s ≤ s + 876; omega⟩
      · refine lh.trans ?_
        rw [cond_true, show vw 1 J 9 k = I 319 (159 + 4 * k + 3) from e9]
        unfold rightV
        rw [z_01, z_01]
        by_cases q : hasP (I 319 (159 + 4 * k + 3)) c
        · rw [if_pos q, if_neg (fun e => ((eq_and hc).mp e) q), if_neg (show ¬ False from id), if_neg (by decide)]
        · rw [if_neg q, if_pos ((eq_and hc).mpr q), if_neg (show ¬ False from id), if_pos rfl]
      · refine sim_putv (b := 1) (k := 9) hs1 (by decide) (inS_6 (by decide) (by decide) (by omega)) (by omega) ?_
        rw [if_neg (show ¬ False from id), e9]
theorem o_sky1 {N d : Nat} {xs : Nat → Int32} {K : Nat → Nat × Nat} {I : Mem} {L : Nat → Nat → Int64} {R : Nat → Nat → Option Nat} {n s : Nat} {x : Int32} (h : Sim N xs K I L R n) (hn : n + 6 ≤ lmCells) (hs : s + 876 ≤ lmSlots) : Ok (d + 40) 143 [.ref 0, .int x, .int (nI 1), .ref 337] (K, I, L, R, n, s) (AftC N xs (d + 40) 304 [.ref 318, .int x, .int (nI 1)] n s false) := by
  obtain ⟨hB, ⟨o, ro, H, hS⟩, hK, hTp, ⟨p, A, Ss, hP, hA, hPs⟩, h8, h13, h25⟩ := id h
  have hT := hB.1
  have h338 := hT.2.2
  have hA12 := hP.2.2.1
  have hTe := fun ci => tk_ex (ci := ci) hT hB.2.2.2.2.2
  refine w_sky (d := d + 38) (TK.k1 hT rfl) ?_
  refine c_sky (d := d + 35) (b := True) hT (by omega) (by omega) hP (st_r14 hS) (nrm1 hS.1) (fun hx => ?_) (fun hx J R2 p2 hT2 hkp hP2 => ?_)
  · exact wrq_e1 (mide hB) (m_skyE (d := d + 36) (hTe 14) hx (aft_e h hn (by decide)))
  · obtain ⟨k, hk, rfl⟩ := hx
    have hs1 := kp_sim hS.1 hkp
    have e319 : up2 (up2 J 1 12 (nI k)) 1 14 (if True then nI 1 else nI 0) 319 = I 319 := by rw [up2_row (by decide), up2_row (by decide)]; exact hkp.1 319 (by decide) (by decide)
    refine wrq_v hT2 (mid_of hB ((up2_row (by decide)).trans ((up2_row (by decide)).trans (hkp.1 lmScr (by decide) (by decide))))) ?_
    refine m_sky1 (d := d + 36) (A := A) hT2 ?_ hA12 (by omega) (fun J3 a3 => ?_)
    · rw [up2_row (by decide), up2_row (by decide), hkp.1 318 (by decide) (by decide)]; exact hA
    · rw [e319] at a3 ⊢
      refine ⟨_, rfl, a3.2.2.1, fun _ => ?_, sim_act (H2 := H) h hS hA12 hPs hT2 hkp hP2 (fun a q _ => by rw [up2_row (by omega), up2_row (by omega)]) a3 ?_ (wb_up (wb_fr hS.2.1 (by omega)) (by omega) (by omega) (by omega) (fun _ => Or.inr rfl) (fun c hc => ⟨fun e => absurd e (by omega), fun e => absurd e (by omega), fun e => absurd e (by omega)⟩) (fun c hc e => absurd e (by omega)) (fun c hc => by omega)) (fun j hj => by rw [up1_ne (by omega), up1_ne (by omega)]) (by rw [up1_ne (by omega), up1_ne (by omega)]) up_lmB, by show n ≤ n + 6; omega, by show s ≤ s + 876; omega⟩
      · refine lh.trans ?_
        rw [cond_false, (sim_r0 hs1).2.2.1]
      · exact sim_putv (b := 1) (k := 0) (j := 14) (sim_putv (b := 1) (k := 0) (j := 12) hs1 (by decide) rfl (by omega) rfl) (by decide) rfl (by omega) (if_pos trivial)
theorem o_sky0 {N d : Nat} {xs : Nat → Int32} {K : Nat → Nat × Nat} {I : Mem} {L : Nat → Nat → Int64} {R : Nat → Nat → Option Nat} {n s : Nat} {x : Int32} (h : Sim N xs K I L R n) (hn : n + 6 ≤ lmCells) (hs : s + 876 ≤ lmSlots) : Ok (d + 40) 143 [.ref 0, .int x, .int (nI 0), .ref 337] (K, I, L, R, n, s) (AftC N xs (d + 40) 304 [.ref 318, .int x, .int (nI 0)] n s false) := by
  obtain ⟨hB, ⟨o, ro, H, hS⟩, hK, hTp, ⟨p, A, Ss, hP, hA, hPs⟩, h8, h13, h25⟩ := id h
  have hT := hB.1
  have h338 := hT.2.2
  have hA12 := hP.2.2.1
  have hTe := fun ci => tk_ex (ci := ci) hT hB.2.2.2.2.2
  refine w_sky (d := d + 38) (TK.k1 hT rfl) ?_
  refine c_sky (d := d + 35) (b := False) hT (by omega) (by omega) hP (st_r14 hS) (nrm1 hS.1) (fun hx => ?_) (fun hx J R2 p2 hT2 hkp hP2 => ?_)
  · exact wrq_e1 (mide hB) (m_skyE (d := d + 36) (hTe 14) hx (aft_e h hn (by decide)))
  · obtain ⟨k, hk, rfl⟩ := hx
    have hs1 := kp_sim hS.1 hkp
    have e319 : up2 (up2 J 1 12 (nI k)) 1 14 (if False then nI 1 else nI 0) 319 = I 319 := by rw [up2_row (by decide), up2_row (by decide)]; exact hkp.1 319 (by decide) (by decide)
    refine wrq_v hT2 (mid_of hB ((up2_row (by decide)).trans ((up2_row (by decide)).trans (hkp.1 lmScr (by decide) (by decide))))) ?_
    refine m_sky0 (d := d + 36) (A := A) hT2 ?_ hA12 (by omega) (fun J3 a3 => ?_)
    · rw [up2_row (by decide), up2_row (by decide), hkp.1 318 (by decide) (by decide)]; exact hA
    · rw [e319] at a3 ⊢
      refine ⟨_, rfl, a3.2.2.1, fun _ => ?_, sim_act (H2 := H) h hS hA12 hPs hT2 hkp hP2 (fun a q _ => by rw [up2_row (by omega), up2_row (by omega)]) a3 ?_ (wb_up (wb_fr hS.2.1 (by omega)) (by omega) (by omega) (by omega) (fun _ => Or.inl rfl) (fun c hc => ⟨fun e => absurd e (by omega), fun e => absurd e (by omega), fun e => absurd e (by omega)⟩) (fun c hc e => absurd e (by omega)) (fun c hc => by omega)) (fun j hj => by rw [up1_ne (by omega), up1_ne (by omega)]) (by rw [up1_ne (by omega), up1_ne (by omega)]) up_lmB, by show n ≤ n + 6; omega, by show s ≤ s + 876; omega⟩
      · refine lh.trans ?_
        rw [cond_false, (sim_r0 hs1).2.2.1]
      · exact sim_putv (b := 1) (k := 0) (j := 14) (sim_putv (b := 1) (k := 0) (j := 12) hs1 (by decide) rfl (by omega) rfl) (by decide) rfl (by omega) (if_neg (show ¬ False from id))
theorem y_in {y : Int32} {m : Nat} (hm : m < 2 ^ 30) (h1 : ¬ y < nI 1) (h2 : ¬ nI m < y) : ∃ k, 1 ≤ k ∧ k ≤ m ∧ y = nI k := by
  have h0 : ¬ y < nI 0 := fun q => h1 (Int32.lt_trans q (by decide))
  obtain ⟨k, hk, rfl⟩ := (InR_iff hm).mp ⟨h0, h2⟩
  exact ⟨k, ge_nI h1 (by decide), by omega, rfl⟩
theorem bd_mn {a k : Nat} (ha : a < 2 ^ 31) (hk : k < 2 ^ 31) : Bd (jmin (nI k) (nI a)) k := by
  unfold jmin
  by_cases h : nI a < nI k
  · rw [if_pos h]; exact ⟨a, Nat.le_of_lt (nI_lt_inv ha hk h), rfl⟩
  · rw [if_neg h]; exact ⟨k, Nat.le_refl _, rfl⟩
theorem o_trade {N d : Nat} {xs : Nat → Int32} {K : Nat → Nat × Nat} {I : Mem} {L : Nat → Nat → Int64} {R : Nat → Nat → Option Nat} {n s : Nat} {x z y : Int32} (h : Sim N xs K I L R n) (hn : n + 6 ≤ lmCells) (hs : s + 876 ≤ lmSlots) : Ok (d + 40) 141 [.ref 0, .int x, .int z, .int y, .ref 337] (K, I, L, R, n, s) (AftC N xs (d + 40) 303 [.ref 318, .int x, .int z, .int y] n s false) := by
  obtain ⟨hB, ⟨o, ro, H, hS⟩, hK, hTp, ⟨p, A, Ss, hP, hA, hPs⟩, h8, h13, h25⟩ := id h
  have hT := hB.1
  have h338 := hT.2.2
  have hA12 := hP.2.2.1
  have hTe := fun ci => tk_ex (ci := ci) hT hB.2.2.2.2.2
  have hw := hS.2.1.1
  have hH6 := hS.2.1.2.1
  have hwe : upr I n (fun _ => (0 : Int32)) 319 0 = nI H := by rw [upr_ne (by omega)]; exact hw
  refine w_trade (d := d + 38) (TK.k1 hT rfl) ?_
  refine c_trade (d := d + 35) hT (by omega) (by omega) hP (st_r14 hS) (nrm1 hS.1) (st_H hS) hH6 (fun hx => ?_) (fun k g hk hg hx hz hy => ?_) (fun k g hk hg hx hz hy hl => ?_) (fun k g hk hg hx hz hy hl J R2 p2 hT2 hkp hP2 => ?_)
  · refine wrq_e1 (mide hB) ?_
    by_cases q : InR x H
    · obtain ⟨k, hk, rfl⟩ := id q
      exact m_tradeE1b (d := d + 35) (hTe 16) hwe hH6 hk (fun q2 => hx ⟨q, q2⟩) (aft_e h hn (by decide))
    · exact m_tradeE1a (d := d + 35) (hTe 16) hwe hH6 q (aft_e h hn (by decide))
  · subst hx hz
    refine wrq_e2 (mide hB) ?_
    by_cases q : k = g
    · subst q
      exact m_tradeE2a (d := d + 35) (hTe 14) hwe hH6 hk (aft_e h hn (by decide))
    · refine m_tradeE2b (d := d + 35) (hTe 14) hwe hH6 hk hg q ?_ (aft_e h hn (by decide))
      rcases hy with e | e | e
      · exact absurd (eq_nI e (by omega) (by omega)) q
      · exact fun w => w.1 e
      · exact fun w => w.2 e
  · subst hx hz
    have hne : ¬ k = g := fun e => hy (Or.inl (by rw [e]))
    refine wrq_e3 (mide hB) (m_tradeE3 (d := d + 35) (hTe 18) hwe hH6 hk hg hne (fun e => hy (Or.inr (Or.inl e))) (fun e => hy (Or.inr (Or.inr e))) ?_ (aft_e h hn (by decide)))
    rw [upr_ne (by omega), ← sim_h8 hS.1 (by omega)]; exact hl
  · subst hx hz
    have hne : ¬ k = g := fun e => hy (Or.inl (by rw [e]))
    obtain ⟨m, hm1, hm9, rfl⟩ := y_in (by decide) (fun e => hy (Or.inr (Or.inl e))) (fun e => hy (Or.inr (Or.inr e)))
    have hs1 := kp_sim hS.1 hkp
    have hJ : addM (up2 J 9 k (J 9 k - nI m)) 1 g (nI m) = up2 (up2 J (1 + 8) k (J 9 k - nI m)) (1 + 8) g (jmin (J 9 g + nI m) (nI 999)) := by
      show up2 (up2 J 9 k (J 9 k - nI m)) (1 + 8) g (jmin (up2 J 9 k (J 9 k - nI m) 9 g + nI m) (nI 999)) = _
      rw [up2_same, if_neg (fun e => hne e.symm)]
    have e9 : J 9 k = I 319 (159 + 4 * k + 2) := sim_h8 hs1 (by omega)
    have e9g : J 9 g = I 319 (159 + 4 * g + 2) := sim_h8 hs1 (by omega)
    have e319 : addM (up2 J 9 k (J 9 k - nI m)) 1 g (nI m) 319 = I 319 := by rw [hJ, up2_row (by decide), up2_row (by decide)]; exact hkp.1 319 (by decide) (by decide)
    have h9 : ¬ I 319 (159 + 4 * k + 2) < nI m := by rw [← sim_h8 hS.1 (by omega)]; exact hl
    obtain ⟨a, a1, a2⟩ := (hS.2.1.2.2.2.2.2.2.1 k (by omega)).1
    obtain ⟨b, b1, b2⟩ := (hS.2.1.2.2.2.2.2.2.1 g (by omega)).1
    have hle : m ≤ a := by rw [a2] at h9; exact ge_nI h9 (by omega)
    refine wrq_v hT2 (mid_of hB (by rw [hJ, up2_row (by decide), up2_row (by decide)]; exact hkp.1 lmScr (by decide) (by decide))) ?_
    refine m_trade (d := d + 35) (A := A) (H := H) hT2 (by rw [e319]; exact hw) hH6 ?_ hA12 hk hg hne hm1 hm9 (by rw [e319]; exact h9) (fun J3 a3 => ?_)
    · rw [hJ, up2_row (by decide), up2_row (by decide), hkp.1 318 (by decide) (by decide)]; exact hA
    · rw [e319] at a3 ⊢
      refine ⟨_, rfl, a3.2.2.1, fun _ => ?_, sim_act (H2 := H) h hS hA12 hPs hT2 hkp hP2 (fun a q _ => by rw [hJ, up2_row (by omega), up2_row (by omega)]) a3 ?_ ?_ (fun j hj => by rw [up1_ne (by omega), up1_ne (by omega)]) (by rw [up1_ne (by omega), up1_ne (by omega)]) up_lmB, by show n ≤ n + 6; omega, by show s ≤ s + 876; omega⟩
      · refine lh.trans ?_
        rw [cond_false, hJ, show up2 (up2 J (1 + 8) k (J 9 k - nI m)) (1 + 8) g (jmin (J 9 g + nI m) (nI 999)) 9 g = jmin (J 9 g + nI m) (nI 999) from up2_hit, e9g, jmin_cm]
      · rw [hJ]
        exact sim_putv (b := 1) (k := 8) (sim_putv (b := 1) (k := 8) hs1 (by decide) (inS_6 (by decide) (by decide) (by omega)) (by omega) (by rw [e9])) (by decide) (inS_6 (by decide) (by decide) (by omega)) (by omega) (by rw [e9g, jmin_cm])
      · refine wb_up (wb_up hS.2.1 (by omega) (by omega) (by omega) (by omega) (fun c hc => ⟨fun e => absurd e (by omega), fun e => absurd e (by omega), fun e => absurd e (by omega)⟩) (fun c hc e => ⟨by omega, ?_⟩) (fun c hc => by omega)) (by omega) (by omega) (by omega) (by omega) (fun c hc => ⟨fun e => absurd e (by omega), fun e => absurd e (by omega), fun e => absurd e (by omega)⟩) (fun c hc e => ⟨by omega, ?_⟩) (fun c hc => by omega)
        · rw [a2, nI_sub hle]; exact ⟨a - m, by omega, rfl⟩
        · rw [b2, nI_add]; exact bd_mn (by omega) (by decide)
theorem day_2 {w : Nat → Int32} {o : RwT} {H : Nat} (h : DWk w o H) : (dayW w o H).2 2 = w 2 := by
  have q := DWk_sd h
  have d := dct_ok q.2.2.1 q.2.2.2 H (Nat.le_refl _)
  rw [dayW_ne (by decide), d.2.2.1]
  exact (dryW_ne (by omega) 25).trans (soaW_ne (by omega) 25)
theorem gon_2 {cal : Bool} {w : Nat → Int32} {o : RwT} {H : Nat} (h : DWk w o H) : ∀ i, (gonW cal w o H i).2 2 = w 2
  | 0 => rfl
  | i + 1 => by
    have ih := gon_2 (cal := cal) h i
    have hd := DWk_gon (cal := cal) h i
    rw [gonW_s]
    unfold gonS
    cases cal
    · show (dayW (skyW (gonW false w o H i).2) o H).2 2 = _
      rw [day_2 (DWk_sky hd)]
      unfold skyW
      rw [up1_ne (by decide), up1_ne (by decide), up1_ne (by decide), up1_ne (by decide)]; exact ih
    · show (dayW (gonW true w o H i).2 o H).2 2 = _
      rw [day_2 hd]; exact ih
theorem o_days {N d : Nat} {xs : Nat → Int32} {K : Nat → Nat × Nat} {I : Mem} {L : Nat → Nat → Int64} {R : Nat → Nat → Option Nat} {n s : Nat} {x : Int32} (h : Sim N xs K I L R n) (hn : n + 6 ≤ lmCells) (hs : s + 876 ≤ lmSlots) : Ok (d + 40) 121 [.ref 0, .int x, .ref 337] (K, I, L, R, n, s) (AftC N xs (d + 40) 290 [.ref 318, .int x] n s false) := by
  obtain ⟨hB, ⟨o, ro, H, hS⟩, hK, hTp, ⟨p, A, Ss, hP, hA, hPs⟩, h8, h13, h25⟩ := id h
  have hT := hB.1
  have h338 := hT.2.2
  have hA12 := hP.2.2.1
  have hTe := fun ci => tk_ex (ci := ci) hT hB.2.2.2.2.2
  have hD := st_day hS
  have hla : ∀ la, R 1 18 = some la → 338 ≤ la ∧ la + 6 ≤ n := fun la q => lo_la hS.2.2.1 hS.2.2.2.1 q
  refine w_days (d := d + 38) (TK.k1 hT rfl) ?_
  refine c_days (d := d + 33) hT (by omega) (by omega) hP (st_r14 hS) (nrm1 hS.1) hD.2.2.2.1 hS.2.2.2.1 hS.2.1.2.1 (fun hx => ?_) (fun k hk1 hk60 hx J R2 p2 hT2 hkp hP2 => ?_)
  · exact wrq_e1 (mide hB) (m_daysE (d := d + 28) (hTe 14) hx (aft_e h hn (by decide)))
  · subst hx
    have hSJ : StR K R2 n J 1 o (I 319) ro H := st_fr (r := none) hS (by cases o; trivial; exact fun la e => by cases e) (Nat.le_refl _) (fun _ _ => rfl) (by rw [hkp.2.2 1 (by decide) (by decide)]) (fun a q1 q2 => hkp.2.2 a (by omega) (by omega)) (fun a q1 q2 _ => hkp.1 a (by omega) (by omega)) (fun q hq => hkp.1 _ (by omega) (by omega))
    obtain ⟨d1, d2⟩ := sim_dday (st_day hSJ) k
    have e2 : ∀ a, (a < 1 ∨ 13 ≤ a) → offR (R 1 18) a → (ddayF J 1 o H k).2 a = J a := fun a q1 q2 => dday_out (by omega) (off_of hS.2.2.1 q2) k
    have off : ∀ a, a < 338 → offR (R 1 18) a := fun a ha la q => by have := hla la q; omega
    have e319 : (ddayF J 1 o H k).2 319 = I 319 := by rw [e2 319 (by decide) (off _ (by decide))]; exact hkp.1 319 (by decide) (by decide)
    refine wrq_v hT2 (mid_of hB ((e2 lmScr (Or.inr (by decide)) (off_scr hB hS)).trans (hkp.1 lmScr (by decide) (by decide)))) ?_
    refine m_days (d := d + 28) (A := A) hT2 (o := ro) (H := H) (by rw [e319]; exact hD.2.2.2.2) ?_ hA12 hk1 hk60 (fun J3 a3 => ?_)
    · rw [e2 318 (by decide) (off _ (by decide)), hkp.1 318 (by decide) (by decide)]; exact hA
    · rw [e319] at a3 ⊢
      refine ⟨_, rfl, a3.2.2.1, fun _ => ?_, sim_act (H2 := H) h hS hA12 hPs hT2 hkp hP2 e2 a3 d1.1 (wb_gon hS.2.1 k) (gon_h hD.2.2.2.2 k) (gon_2 hD.2.2.2.2 k) up_lmB, by show n ≤ n + 6; omega, by show s ≤ s + 876; omega⟩
      refine lh.trans ?_
      rw [cond_false, d2]
