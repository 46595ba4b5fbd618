/-! PAIRS: acts -/
theorem lh {K : Nat → Nat × Nat} {I : Mem} {L : Nat → Nat → Int64} {R : Nat → Nat → Option Nat} {n s : Nat} {v : Int64} : lmL (K, I, up2 L 337 0 v, R, n, s) 337 0 = v := (show up2 L 337 0 v 337 0 = v from up2_hit)
theorem wrq_v {N : Nat} {xs : Nat → Int32} {D m n0 s0 : Nat} {args : List Value} {cs : List Nat} {K : Nat → Nat × Nat} {I : Mem} {L : Nat → Nat → Int64} {R : Nat → Nat → Option Nat} {n s : Nat} {v : Int32} (hT : TK K R n) (hm : MidR N xs K I) (h : Ok D m args (K, I, up2 L 337 0 v.toInt64, R, n, s) (AftR N xs n0 s0 0 false)) : WrQ cs (AftC N xs D m args n0 s0 false) (.inl (some (.int v))) (K, I, L, R, n, s) :=
  ⟨TK.kk hT rfl, hT.2.2, 0, by decide, rfl, h, hm⟩
theorem wrz_v {N : Nat} {xs : Nat → Int32} {D m n0 s0 : Nat} {args : List Value} {cs : List Nat} {K : Nat → Nat × Nat} {I : Mem} {L : Nat → Nat → Int64} {R : Nat → Nat → Option Nat} {n s : Nat} {v : Int32} (hT : TK K R n) (hm : MidR N xs K I) (h : Ok D m args (K, I, up2 L 337 0 (if v = nI 0 then 0 else 1), R, n, s) (AftR N xs n0 s0 0 true)) : WrZ cs (AftC N xs D m args n0 s0 true) (.inl (some (.int v))) (K, I, L, R, n, s) :=
  ⟨TK.kk hT rfl, hT.2.2, 0, by decide, rfl, h, hm⟩
theorem wrq_e1 {N : Nat} {xs : Nat → Int32} {D m n0 s0 : Nat} {args : List Value} {z : Bool} {ci : Nat} {r : List Nat} {K : Nat → Nat × Nat} {I : Mem} {L : Nat → Nat → Int64} {R : Nat → Nat → Option Nat} {n s : Nat} (hm : MidR N xs K I ∧ 338 ≤ n ∧ n ≤ lmCells) (h : Ok D m args (up1 (up1 K n (ci, 0)) n (ci, 1), upr I n (fun _ => 0), upr L n (fun _ => 0), upr R n (fun _ => none), n + 1, s + 6) (AftR N xs n0 s0 1 z)) : WrQ (ci :: r) (AftC N xs D m args n0 s0 z) (.inr n) (exM ci (K, I, L, R, n, s)) := wrE1 exK ⟨1, by decide, rfl, h, mid_ex hm⟩
theorem wrz_e1 {N : Nat} {xs : Nat → Int32} {D m n0 s0 : Nat} {args : List Value} {z : Bool} {ci : Nat} {r : List Nat} {K : Nat → Nat × Nat} {I : Mem} {L : Nat → Nat → Int64} {R : Nat → Nat → Option Nat} {n s : Nat} (hm : MidR N xs K I ∧ 338 ≤ n ∧ n ≤ lmCells) (h : Ok D m args (up1 (up1 K n (ci, 0)) n (ci, 1), upr I n (fun _ => 0), upr L n (fun _ => 0), upr R n (fun _ => none), n + 1, s + 6) (AftR N xs n0 s0 1 z)) : WrZ (ci :: r) (AftC N xs D m args n0 s0 z) (.inr n) (exM ci (K, I, L, R, n, s)) := wrE1 exK ⟨1, by decide, rfl, h, mid_ex hm⟩
theorem wrq_e2 {N : Nat} {xs : Nat → Int32} {D m n0 s0 : Nat} {args : List Value} {z : Bool} {ci c1 : Nat} {r : List Nat} {K : Nat → Nat × Nat} {I : Mem} {L : Nat → Nat → Int64} {R : Nat → Nat → Option Nat} {n s : Nat} (hm : MidR N xs K I ∧ 338 ≤ n ∧ n ≤ lmCells) (h : Ok D m args (up1 (up1 K n (ci, 0)) n (ci, 1), upr I n (fun _ => 0), upr L n (fun _ => 0), upr R n (fun _ => none), n + 1, s + 6) (AftR N xs n0 s0 2 z)) : WrQ (c1 :: ci :: r) (AftC N xs D m args n0 s0 z) (.inr n) (exM ci (K, I, L, R, n, s)) := wrE2 exK ⟨2, by decide, rfl, h, mid_ex hm⟩
theorem wrq_e3 {N : Nat} {xs : Nat → Int32} {D m n0 s0 : Nat} {args : List Value} {z : Bool} {ci c1 c2 : Nat} {r : List Nat} {K : Nat → Nat × Nat} {I : Mem} {L : Nat → Nat → Int64} {R : Nat → Nat → Option Nat} {n s : Nat} (hm : MidR N xs K I ∧ 338 ≤ n ∧ n ≤ lmCells) (h : Ok D m args (up1 (up1 K n (ci, 0)) n (ci, 1), upr I n (fun _ => 0), upr L n (fun _ => 0), upr R n (fun _ => none), n + 1, s + 6) (AftR N xs n0 s0 3 z)) : WrQ (c1 :: c2 :: ci :: r) (AftC N xs D m args n0 s0 z) (.inr n) (exM ci (K, I, L, R, n, s)) := wrE3 exK ⟨3, by decide, rfl, h, mid_ex hm⟩
theorem st_r14 {K : Nat → Nat × Nat} {R : Nat → Nat → Option Nat} {n : Nat} {I : Mem} {b : Nat} {o : LawT} {w : Nat → Int32} {ro : RwT} {H : Nat} (h : StR K R n I b o w ro H) : I b 14 = 0 ∨ I b 14 = 1 := by
  rw [(sim_r0 h.1).2.2.2.2.1]; exact h.2.1.2.2.1
theorem st_H {K : Nat → Nat × Nat} {R : Nat → Nat → Option Nat} {n : Nat} {I : Mem} {b : Nat} {o : LawT} {w : Nat → Int32} {ro : RwT} {H : Nat} (h : StR K R n I b o w ro H) : I b 10 = nI H := by
  rw [(sim_r0 h.1).1]; exact h.2.1.1
theorem kp_sim {I J : Mem} {R R2 : Nat → Nat → Option Nat} {w : Nat → Int32} (h : SimS (vw 1 I) w) (k : Kp I J R R2) : SimS (vw 1 J) w := sim_vw h (fun q hq => k.1 _ (by omega) (by omega))
theorem nrm1 {S : Mem} {w : Nat → Int32} (h : SimS S w) : Nrm S := h.2.2.1
theorem bool_z {p q : Prop} [Decidable p] [Decidable q] (h : p ↔ q) : (if (if p then nI 1 else nI 0) = nI 0 then (0 : Int64) else 1) = (if (if q then nI 1 else nI 0) = nI 0 then 0 else 1) := by
  by_cases e : p
  · rw [if_pos e, if_pos (h.mp e)]
  · rw [if_neg e, if_neg (fun z => e (h.mpr z))]
theorem o_dig {N d : Nat} {xs : Nat → Int32} {K : Nat → Nat × Nat} {I : Mem} {L : Nat → Nat → Int64} {R : Nat → Nat → Option Nat} {n s : Nat} {x : Int32} (h : Sim N xs K I L R n) (hn : n + 6 ≤ lmCells) (hs : s + 876 ≤ lmSlots) : Ok (d + 40) 135 [.ref 0, .int x, .ref 337] (K, I, L, R, n, s) (AftC N xs (d + 40) 300 [.ref 318, .int x] n s true) := by
  obtain ⟨hB, ⟨o, ro, H, hS⟩, hK, hTp, ⟨p, A, Ss, hP, hA, hPs⟩, h8, h13, h25⟩ := id h
  have hT := hB.1
  have h338 := hT.2.2
  have hA12 := hP.2.2.1
  refine w_dig (d := d + 38) (TK.k1 hT rfl) ?_
  refine c_dig (d := d + 35) hT (by omega) (by omega) hP (st_r14 hS) (nrm1 hS.1) (fun hx => ?_) (fun c hc hx J R2 p2 hT2 hk hP2 => ?_)
  · exact wrz_e1 (mide hB) (m_digE (d := d + 35) (tk_ex hT hB.2.2.2.2.2) hx (aft_e h hn (by decide)))
  · subst hx
    have hs1 := kp_sim hS.1 hk
    have e319 : up2 J 1 11 (J 1 11 ||| jshl (nI 1) (nI c)) 319 = I 319 := by rw [up2_row (by decide)]; exact hk.1 319 (by decide) (by decide)
    refine wrz_v hT2 (mid_of hB ((up2_row (by decide)).trans (hk.1 lmScr (by decide) (by decide)))) ?_
    refine m_dig (d := d + 35) (A := A) hT2 ?_ hA12 hc (fun J3 a3 => ?_)
    · rw [up2_row (by decide), hk.1 318 (by decide) (by decide)]; exact hA
    · rw [e319] at a3 ⊢
      refine ⟨_, rfl, a3.2.2.1, fun _ => ?_, sim_act (H2 := H) h hS hA12 hPs hT2 hk hP2 (fun a q _ => up2_row (by omega)) a3 ?_ (wb_fr hS.2.1 (by omega)) (fun j hj => up1_ne (by omega)) (up1_ne (by omega)) up_lmB, by show n ≤ n + 6; omega, by show s ≤ s + 876; omega⟩
      · refine lh.trans ?_
        rw [cond_true]
        refine bool_z ?_
        rw [(sim_r0 hs1).2.1]
        exact dr_has0 hs1.2.2.2 hc
      · show SimS (vw 1 (up2 J (1 + 0) 11 _)) _
        rw [vw_up2]
        refine sim_dr hs1 hc (Or.inr rfl) ?_
        rw [(sim_r0 hs1).2.1, dr_put1 hs1.2.2.2 hc]
theorem o_block {N d : Nat} {xs : Nat → Int32} {K : Nat → Nat × Nat} {I : Mem} {L : Nat → Nat → Int64} {R : Nat → Nat → Option Nat} {n s : Nat} {x : Int32} (h : Sim N xs K I L R n) (hn : n + 6 ≤ lmCells) (hs : s + 876 ≤ lmSlots) : Ok (d + 40) 137 [.ref 0, .int x, .ref 337] (K, I, L, R, n, s) (AftC N xs (d + 40) 301 [.ref 318, .int x] n s true) := by
  obtain ⟨hB, ⟨o, ro, H, hS⟩, hK, hTp, ⟨p, A, Ss, hP, hA, hPs⟩, h8, h13, h25⟩ := id h
  have hT := hB.1
  have h338 := hT.2.2
  have hA12 := hP.2.2.1
  refine w_block (d := d + 38) (TK.k1 hT rfl) ?_
  refine c_block (d := d + 35) hT (by omega) (by omega) hP (st_r14 hS) (nrm1 hS.1) (fun hx => ?_) (fun c hc hx J R2 p2 hT2 hk hP2 => ?_)
  · exact wrz_e1 (mide hB) (m_blockE (d := d + 35) (tk_ex hT hB.2.2.2.2.2) hx (aft_e h hn (by decide)))
  · subst hx
    have hs1 := kp_sim hS.1 hk
    have e319 : up2 J 1 11 (J 1 11 &&& (jshl (nI 1) (nI c) ^^^ (-1))) 319 = I 319 := by rw [up2_row (by decide)]; exact hk.1 319 (by decide) (by decide)
    refine wrz_v hT2 (mid_of hB ((up2_row (by decide)).trans (hk.1 lmScr (by decide) (by decide)))) ?_
    refine m_block (d := d + 35) (A := A) hT2 ?_ hA12 hc (fun J3 a3 => ?_)
    · rw [up2_row (by decide), hk.1 318 (by decide) (by decide)]; exact hA
    · rw [e319] at a3 ⊢
      refine ⟨_, rfl, a3.2.2.1, fun _ => ?_, sim_act (H2 := H) h hS hA12 hPs hT2 hk hP2 (fun a q _ => up2_row (by omega)) a3 ?_ (wb_fr hS.2.1 (by omega)) (fun j hj => up1_ne (by omega)) (up1_ne (by omega)) up_lmB, by show n ≤ n + 6; omega, by show s ≤ s + 876; omega⟩
      · refine lh.trans ?_
        rw [cond_true]
        refine bool_z ?_
        rw [(sim_r0 hs1).2.1]
        exact dr_has hs1.2.2.2 hc
      · show SimS (vw 1 (up2 J (1 + 0) 11 _)) _
        rw [vw_up2]
        refine sim_dr hs1 hc (Or.inl rfl) ?_
        rw [(sim_r0 hs1).2.1, dr_put0 hs1.2.2.2 hc]
theorem foot_iff {I : Mem} {w : Nat → Int32} {H c : Nat} (h : SimS (vw 1 I) w) (hw : WB w H) (hc : c < 25) : footP (vw 1 I) c ↔ footW w c := by
  unfold footP
  rw [show vw 1 I 3 c = w (9 + 6 * c + 3) from sim_c3 (b := 1) (I := I) h hc, show vw 1 I 4 c = w (9 + 6 * c + 4) from sim_c4 (b := 1) (I := I) h hc, show vw 1 I 5 c = w (9 + 6 * c + 5) from sim_c5 (b := 1) (I := I) h hc]
  obtain ⟨a, a1, a2⟩ := (hw.2.2.2.2.2.1 c hc).2.2
  show _ ↔ (nI 0 < w (9 + 6 * c + 3) ∧ _)
  rw [a2]
  refine and_congr ?_ Iff.rfl
  constructor
  · intro q
    have : a ≠ 0 := fun e => q (by rw [e])
    exact nI_lt (by omega) (by omega)
  · intro q e; rw [e] at q; exact absurd q (by decide)
theorem o_foot {N d : Nat} {xs : Nat → Int32} {K : Nat → Nat × Nat} {I : Mem} {L : Nat → Nat → Int64} {R : Nat → Nat → Option Nat} {n s : Nat} {x : Int32} (h : Sim N xs K I L R n) (hn : n + 6 ≤ lmCells) (hs : s + 876 ≤ lmSlots) : Ok (d + 40) 129 [.ref 0, .int x, .ref 337] (K, I, L, R, n, s) (AftC N xs (d + 40) 295 [.ref 318, .int x] n s false) := by
  obtain ⟨hB, ⟨o, ro, H, hS⟩, hK, hTp, ⟨p, A, Ss, hP, hA, hPs⟩, h8, h13, h25⟩ := id h
  have hT := hB.1
  have h338 := hT.2.2
  have hA12 := hP.2.2.1
  have hTe := fun ci => tk_ex (ci := ci) hT hB.2.2.2.2.2
  refine w_foot (d := d + 38) (TK.k1 hT rfl) ?_
  refine c_foot (d := d + 35) hT (by omega) (by omega) hP (st_r14 hS) (nrm1 hS.1) (fun hx => ?_) (fun c hc hx hf => ?_) (fun c hc hx hf J R2 p2 hT2 hk hP2 => ?_)
  · exact wrq_e1 (mide hB) (m_footE1 (d := d + 35) (hTe 16) hx (aft_e h hn (by decide)))
  · subst hx
    refine wrq_e2 (mide hB) (m_footE2 (d := d + 35) (hTe 18) hc ?_ (aft_e h hn (by decide)))
    rw [upr_ne (by omega)]
    exact fun q => hf ((foot_iff hS.1 hS.2.1 hc).mpr q)
  · subst hx
    have hs1 := kp_sim hS.1 hk
    have e319 : up2 J 6 c (I 6 c + nI 1) 319 = I 319 := by rw [up2_row (by decide)]; exact hk.1 319 (by decide) (by decide)
    have e6 : I 6 c = I 319 (9 + 6 * c + 5) := sim_c5 hS.1 hc
    refine wrq_v hT2 (mid_of hB ((up2_row (by decide)).trans (hk.1 lmScr (by decide) (by decide)))) ?_
    refine m_foot (d := d + 35) (A := A) hT2 ?_ hA12 hc ?_ (fun J3 a3 => ?_)
    · rw [up2_row (by decide), hk.1 318 (by decide) (by decide)]; exact hA
    · rw [e319]; exact (foot_iff hS.1 hS.2.1 hc).mp hf
    · rw [e319] at a3 ⊢
      refine ⟨_, rfl, a3.2.2.1, fun _ => ?_, sim_act (H2 := H) h hS hA12 hPs hT2 hk hP2 (fun a q _ => up2_row (by omega)) a3 ?_ (wb_fr hS.2.1 (by omega)) (fun j hj => up1_ne (by omega)) (up1_ne (by omega)) up_lmB, by show n ≤ n + 6; omega, by show s ≤ s + 876; omega⟩
      · refine lh.trans ?_
        rw [cond_false, e6]
      · exact sim_putv (b := 1) (k := 5) hs1 (by decide) (inS_25 (by decide) (by decide) hc) (by omega) (by rw [e6])
theorem o_cut {N d : Nat} {xs : Nat → Int32} {K : Nat → Nat × Nat} {I : Mem} {L : Nat → Nat → Int64} {R : Nat → Nat → Option Nat} {n s : Nat} {x z : Int32} (h : Sim N xs K I L R n) (hn : n + 6 ≤ lmCells) (hs : s + 876 ≤ lmSlots) : Ok (d + 40) 127 [.ref 0, .int x, .int z, .ref 337] (K, I, L, R, n, s) (AftC N xs (d + 40) 293 [.ref 318, .int x, .int z] n s false) := by
  obtain ⟨hB, ⟨o, ro, H, hS⟩, hK, hTp, ⟨p, A, Ss, hP, hA, hPs⟩, h8, h13, h25⟩ := id h
  have hT := hB.1
  have h338 := hT.2.2
  have hA12 := hP.2.2.1
  have hTe := fun ci => tk_ex (ci := ci) hT hB.2.2.2.2.2
  have hw := hS.2.1.1
  have hH6 := hS.2.1.2.1
  have hx0 : ∀ {J : Mem}, upr I n (fun _ => (0 : Int32)) 319 = I 319 := fun {J} => upr_ne (by omega)
  have hwe : upr I n (fun _ => (0 : Int32)) 319 0 = nI H := by rw [upr_ne (by omega)]; exact hw
  obtain ⟨q, hq6, hq⟩ := log_ok hS.1
  have ho : ∀ c, openQ (vw 1 I) c ↔ openQ (Sv (I 319)) c := fun c => by
    rw [openQ, openQ, sim_row hS.1 (k := 1) (by decide), sim_row hS.1 (k := 2) (by decide), sim_row hS.1 (k := 3) (by decide)]
  refine w_cut (d := d + 38) (TK.k1 hT rfl) ?_
  refine c_cut (d := d + 35) hT (by omega) (by omega) hP (st_r14 hS) (nrm1 hS.1) (st_H hS) hH6 hq hq6 (fun hx => ?_) (fun k c hk hc hx hz hf => ?_) (fun k c hk hc hx hz hf J R2 p2 hT2 hkp hP2 => ?_)
  · exact wrq_e1 (mide hB) (m_cutE1 (d := d + 35) (hTe 16) hwe hH6 hx (aft_e h hn (by decide)))
  · subst hx hz
    refine wrq_e2 (mide hB) ?_
    by_cases qo : openQ (Sv (I 319)) c
    · refine m_cutE2r (d := d + 35) (hTe 18) hwe hH6 hk hc ?_ ?_ (aft_e h hn (by decide))
      · rw [upr_ne (by omega)]; exact qo
      · rw [upr_ne (by omega)]
        intro q9
        refine hf ⟨(ho c).mpr qo, ?_⟩
        rw [show vw 1 I 9 k = I 319 (159 + 4 * k + 3) from sim_h9 (b := 1) (I := I) hS.1 (by omega)]; exact q9
    · refine m_cutE2o (d := d + 35) (hTe 18) hwe hH6 hk hc ?_ (aft_e h hn (by decide))
      rw [upr_ne (by omega)]; exact qo
  · subst hx hz
    have hs1 := kp_sim hS.1 hkp
    have e319 : cutM J 1 k c (nI 1) q 319 = I 319 := by rw [cutM_out (by omega)]; exact hkp.1 319 (by decide) (by decide)
    have hpos := wok_pos (wb_ok hS.2.1) hk hc
    have hcut := sim_cut (kd := nI 1) (q := q) hs1 (by omega : k < 6) hc (by rw [hkp.1 (1 + 10) (by decide) (by decide)]; exact hq) hq6 hpos
    refine wrq_v hT2 (mid_of hB ((cutM_out (Or.inr (by decide))).trans (hkp.1 lmScr (by decide) (by decide)))) ?_
    refine m_cut (d := d + 35) (A := A) (H := H) hT2 ?_ hH6 ?_ hA12 hk hc ?_ ?_ ?_ (fun J3 a3 => ?_)
    · rw [e319]; exact hw
    · rw [cutM_out (by omega), hkp.1 318 (by decide) (by decide)]; exact hA
    · rw [e319]; exact wb_ok hS.2.1
    · rw [e319]; exact (ho c).mp hf.1
    · rw [e319, ← sim_h9 hS.1 (by omega)]; exact hf.2
    · rw [e319] at a3 ⊢
      refine ⟨_, rfl, a3.2.2.1, fun _ => ?_, sim_act (H2 := H) h hS hA12 hPs hT2 hkp hP2 (fun a q _ => cutM_out (by omega)) a3 hcut (wb_cut hS.2.1 hk hc ((ho c).mp hf.1)) (fun j hj => ?_) ?_ up_lmB, by show n ≤ n + 6; omega, by show s ≤ s + 876; omega⟩
      · refine lh.trans ?_
        rw [cond_false, show cutM J 1 k c (nI 1) q 4 c = cutW (I 319) k c (nI 1) (9 + 6 * c + 3) from sim_c3 hcut hc]
        unfold cutW
        rw [tolW_lo (by omega) (by omega), up1_ne (by omega), up1_hit]
      · unfold cutW
        rw [tolW_hi hj, up1_ne (by omega), up1_ne (by omega), up1_ne (by omega), up1_ne (by omega)]
      · unfold cutW
        rw [tolW_lo (by omega) (by omega), up1_ne (by omega), up1_ne (by omega), up1_ne (by omega), up1_ne (by omega)]
