/-! PAIRS: days ahead, trials, spans, floods -/
theorem kpd_st {K : Nat → Nat × Nat} {R : Nat → Nat → Option Nat} {n : Nat} {I J : Mem} {o : LawT} {w : Nat → Int32} {ro : RwT} {H : Nat} (h : StR K R n I 1 o w ro H) (e : KpD o I J) : StR K R n J 1 o w ro H :=
  st_fr h (laD_me h.2.2.1) (Nat.le_refl _) (fun _ _ => rfl) rfl (fun _ _ _ => rfl) (fun a q1 q2 q3 => e.1 a (by omega) (off_of h.2.2.1 q3)) (fun k hk => e.1 _ (by omega) (rk_off h.2.2.2.1 (by omega)))
theorem st_draft {K : Nat → Nat × Nat} {R : Nat → Nat → Option Nat} {n : Nat} {I J : Mem} {o : LawT} {w : Nat → Int32} {ro : RwT} {H : Nat} (h : StR K R n I 1 o w ro H) (e : KpD o I J) : StR K (up2 R 13 18 (R 1 18)) n (cpS J 13 1) 13 o w ro H ∧ KpD o I (cpS J 13 1) := by
  have h2 : StR K (up2 R 13 18 (R 1 18)) n (cpS J 13 1) 13 o w ro H := st_mv (kpd_st h e) (by decide) (fun k hk => cpS_in hk) up2_hit (fun a q1 q2 => up2_row (by omega)) (fun a q1 q2 => cpS_out (by omega))
  exact ⟨h2, fun a ha hl => by rw [cpS_out (by omega)]; exact e.1 a ha hl, nrm1 h2.1⟩
theorem st_seed {K : Nat → Nat × Nat} {R : Nat → Nat → Option Nat} {n : Nat} {I : Mem} {b : Nat} {o : LawT} {w : Nat → Int32} {ro : RwT} {H : Nat} {x : Int32} (h : StR K R n I b o w ro H) : StR K R n (up2 I b 16 x) b o (up1 w 8 x) ro H := by
  obtain ⟨h1, h2, h3, h4, h5, h6, h7⟩ := h
  have hi : ∀ j, 483 ≤ j → up1 w 8 x j = w j := fun j hj => up1_ne (by omega)
  exact ⟨sim_putv (k := 0) (j := 16) h1 (by decide) rfl (by omega) rfl, wb_fr h2 (by omega), LO_up2 (k := 0) h3 (by decide), h4, lawOO_ag hi (lawOO_out (fun a q1 _ => up2_row (by omega)) h5), RO_ag (up1_ne (by decide)) hi h6, amb_ag hi h7⟩
theorem kpd_cday {K : Nat → Nat × Nat} {R : Nat → Nat → Option Nat} {n : Nat} {I J : Mem} {o : LawT} {w : Nat → Int32} {ro : RwT} {H : Nat} (h : StR K R n J 13 o w ro H) (e : KpD o I J) (k : Nat) : KpD o I (cdayM J 13 o H k) := KpD_cday e (st_day h).2.2.2.1 k
theorem kpd_tday {K : Nat → Nat × Nat} {R : Nat → Nat → Option Nat} {n : Nat} {I J : Mem} {o : LawT} {w : Nat → Int32} {ro : RwT} {H : Nat} (h : StR K R n J 13 o w ro H) (e : KpD o I J) (k : Nat) : KpD o I (tdayM J 13 o H k) := KpD_tday e (st_day h).2.2.2.1 k
theorem sum_cg {D E : Nat → Int32} : ∀ k, (∀ j, j < k → D j = E j) → sumN D k = sumN E k
  | 0 => fun _ => rfl
  | k + 1 => fun h => by
    show sumN D k + D k = sumN E k + E k
    rw [sum_cg k (fun j hj => h j (by omega)), h k (by omega)]
theorem up_same {f : Mem} {a k : Nat} {v : Int32} (e : v = f a k) : up2 f a k v = f := by
  funext i j
  by_cases q : i = a ∧ j = k
  · obtain ⟨rfl, rfl⟩ := q; rw [up2_hit, e]
  · rw [up2_off q]
theorem try_same {I : Mem} {o : LawT} {H k : Nat} : tryM I (I 1 16) o H k = tdayM (cpS I 13 1) 13 o H k := by
  unfold tryM
  rw [up_same (show I 1 16 = cpS I 13 1 13 16 from by rw [show cpS I 13 1 13 = I 1 from cpS_in (k := 0) (by decide)])]
theorem ahead_eq {S : Mem} {w : Nat → Int32} {c q : Nat} (h : SimS S w) (hc : c < 25) (hq : q < 4) : aheadV S c q = w (9 + 6 * c + (if q < 2 then q else q + 1)) := by
  have hq2 : q = 0 ∨ q = 1 ∨ q = 2 ∨ q = 3 := by omega
  rcases hq2 with rfl | rfl | rfl | rfl
  · exact (sim_k h (k := 1) (by decide) (by decide) hc).trans (Sv_1 hc)
  · exact (sim_k h (k := 2) (by decide) (by decide) hc).trans (Sv_2 hc)
  · exact (sim_k h (k := 3) (by decide) (by decide) hc).trans (Sv_3 hc)
  · exact (sim_k h (k := 4) (by decide) (by decide) hc).trans (Sv_4 hc)
theorem frs_fd {w c H : Nat} {o : LawT} {p : Nat → Prop} [∀ i, Decidable (p i)] {J0 : Mem} (hp : ∀ i, standB w c (vw 13 (cdayM J0 13 o H i)) = true ↔ p i) : ∀ r i, i + r < 2 ^ 31 → frsW p i = -1 → fdV w c o H r i (cdayM J0 13 o H i) = frsW p (i + r + 1)
  | 0 => fun i hi e => by
    show (bif standB w c (vw 13 (cdayM J0 13 o H i)) then nI i else -1) = frsW p (i + 1)
    rw [frsW_s, if_pos e]
    by_cases q : p i
    · rw [(hp i).mpr q, if_pos q]; rfl
    · have : standB w c (vw 13 (cdayM J0 13 o H i)) = false := by
        cases z : standB w c (vw 13 (cdayM J0 13 o H i))
        · rfl
        · exact absurd ((hp i).mp z) q
      rw [this, if_neg q]; rfl
  | r + 1 => fun i hi e => by
    show (bif standB w c (vw 13 (cdayM J0 13 o H i)) then nI i else fdV w c o H r (i + 1) (dayF (cdayM J0 13 o H i) 13 o H).2) = frsW p (i + (r + 1) + 1)
    have hs : frsW p (i + 1) = if p i then nI i else -1 := by rw [frsW_s, if_pos e]
    by_cases q : p i
    · rw [(hp i).mpr q]
      rw [if_pos q] at hs
      rw [frsW_stay (i := i + 1) (by rw [hs]; exact nI_nm1 (by omega)) (by omega), hs]; rfl
    · have : standB w c (vw 13 (cdayM J0 13 o H i)) = false := by
        cases z : standB w c (vw 13 (cdayM J0 13 o H i))
        · rfl
        · exact absurd ((hp i).mp z) q
      rw [if_neg q] at hs
      rw [this]
      show fdV w c o H r (i + 1) (cdayM J0 13 o H (i + 1)) = _
      rw [frs_fd hp r (i + 1) (by omega) hs, show i + 1 + r + 1 = i + (r + 1) + 1 by omega]
theorem most_max {D : Nat → Int32} : ∀ i c, c < i → ¬ D (mostN D i) < D c
  | 0 => fun c hc => absurd hc (by omega)
  | i + 1 => fun c hc => by
    show ¬ D (if D (mostN D i) < D i then i else mostN D i) < D c
    by_cases e : D (mostN D i) < D i
    · rw [if_pos e]
      by_cases q : c = i
      · subst q; exact fun z => Int32.lt_irrefl z
      · exact fun z => most_max (D := D) i c (by omega) (Int32.lt_trans e z)
    · rw [if_neg e]
      by_cases q : c = i
      · subst q; exact e
      · exact most_max (D := D) i c (by omega)
theorem fld_iff {w : Nat → Int32} : ∀ i, fldB w i = true ↔ ∃ c, c < i ∧ w (9 + 6 * c + 1) = nI 9
  | 0 => ⟨fun e => (by cases e), fun ⟨c, hc, _⟩ => absurd hc (by omega)⟩
  | i + 1 => by
    rw [fldB_s, Bool.or_eq_true, fld_iff i, decide_eq_true_iff]
    constructor
    · rintro (⟨c, h1, h2⟩ | e)
      · exact ⟨c, by omega, h2⟩
      · exact ⟨i, by omega, e⟩
    · rintro ⟨c, h1, h2⟩
      by_cases q : c = i
      · subst q; exact Or.inr h2
      · exact Or.inl ⟨c, by omega, h2⟩
theorem flood_iff {S : Mem} {w : Nat → Int32} {H : Nat} (h : SimS S w) (hw : WB w H) : floodQ S ↔ fldB w 25 = true := by
  have e2 : ∀ c, c < 25 → S 2 c = w (9 + 6 * c + 1) := fun c hc => (sim_k h (k := 2) (by decide) (by decide) hc).trans (Sv_2 hc)
  have hl := mostN_lt (S 2) 25 (by decide)
  rw [fld_iff]
  constructor
  · intro e
    exact ⟨mostN (S 2) 25, hl, (e2 _ hl).symm.trans e⟩
  · rintro ⟨c, h1, h2⟩
    have := most_max (D := S 2) 25 c h1
    rw [e2 c h1, h2] at this
    show S 2 (mostN (S 2) 25) = nI 9
    obtain ⟨a, a1, a2⟩ := (hw.2.2.2.2.2.1 _ hl).2.1
    rw [e2 _ hl, a2] at this ⊢
    have := ge_nI this (by decide)
    rw [show a = 9 by omega]
theorem stand_iff {K : Nat → Nat × Nat} {R : Nat → Nat → Option Nat} {n : Nat} {J : Mem} {o : LawT} {w : Nat → Int32} {ro : RwT} {H : Nat} (h : StR K R n J 13 o w ro H) (i : Nat) : SimS (vw 13 (cdayM J 13 o H i)) (gonW true w ro H i).2 ∧ WB (gonW true w ro H i).2 H :=
  ⟨(sim_cday (st_day h) i).1, wb_gon h.2.1 i⟩
theorem rip_iff {S : Mem} {w : Nat → Int32} {c : Nat} (h : SimS S w) (hc : c < 25) : ripeQ S c ↔ ripW w c := by
  show (nI 0 < S 3 c ∧ ¬ S 4 c < nI 60) ↔ (nI 0 < w (9 + 6 * c + 3) ∧ ¬ w (9 + 6 * c + 4) < nI 60)
  rw [(sim_k h (k := 3) (by decide) (by decide) hc).trans (Sv_3 hc), (sim_k h (k := 4) (by decide) (by decide) hc).trans (Sv_4 hc)]
theorem opn_iff {S : Mem} {w : Nat → Int32} {c : Nat} (h : SimS S w) : openQ S c ↔ openQ (Sv w) c := by
  rw [openQ, openQ, sim_row h (k := 1) (by decide), sim_row h (k := 2) (by decide), sim_row h (k := 3) (by decide)]
theorem fd_ripe {K : Nat → Nat × Nat} {R : Nat → Nat → Option Nat} {n : Nat} {J : Mem} {o : LawT} {w : Nat → Int32} {ro : RwT} {H c : Nat} (h : StR K R n J 13 o w ro H) (hc : c < 25) : fdV 0 c o H 60 0 J = frsW (fun i => ripW (gonW true w ro H i).2 c) 61 :=
  frs_fd (J0 := J) (fun i => by rw [standB_0, decide_eq_true_iff]; exact rip_iff (stand_iff h i).1 hc) 60 0 (by decide) rfl
theorem fd_open {K : Nat → Nat × Nat} {R : Nat → Nat → Option Nat} {n : Nat} {J : Mem} {o : LawT} {w : Nat → Int32} {ro : RwT} {H c : Nat} (h : StR K R n J 13 o w ro H) : fdV 1 c o H 60 0 J = frsW (fun i => openQ (Sv (gonW true w ro H i).2) c) 61 :=
  frs_fd (J0 := J) (fun i => by rw [standB_1, decide_eq_true_iff]; exact opn_iff (stand_iff h i).1) 60 0 (by decide) rfl
theorem fd_flood {K : Nat → Nat × Nat} {R : Nat → Nat → Option Nat} {n : Nat} {J : Mem} {o : LawT} {w : Nat → Int32} {ro : RwT} {H : Nat} (h : StR K R n J 13 o w ro H) : fdV 2 0 o H 60 0 J = frsW (fun i => fldB (gonW true w ro H i).2 25 = true) 61 :=
  frs_fd (J0 := J) (fun i => by rw [standB_2, decide_eq_true_iff]; exact flood_iff (stand_iff h i).1 (stand_iff h i).2) 60 0 (by decide) rfl
theorem kpd_319 {K : Nat → Nat × Nat} {R : Nat → Nat → Option Nat} {n : Nat} {I J : Mem} {o : LawT} {w : Nat → Int32} {ro : RwT} {H : Nat} (h : StR K R n I 1 o w ro H) (e : KpD o I J) {a : Nat} (h1 : 25 ≤ a) (ha : a < 338) : J a = I a := e.1 a (by omega) (rk_off h.2.2.2.1 ha)
theorem o_flood {N d : Nat} {xs : Nat → Int32} {K : Nat → Nat × Nat} {I : Mem} {L : Nat → Nat → Int64} {R : Nat → Nat → Option Nat} {n s : Nat} (h : Sim N xs K I L R n) : Ok (d + 40) 22 [.ref 0] (K, I, L, R, n, s) (DirC N xs (d + 40) 314 [.ref 318] n s) := by
  obtain ⟨hB, ⟨o, ro, H, hS⟩, hK, hTp, ⟨p, A, Ss, hP, hA, hPs⟩, h8, h13, h25⟩ := id h
  have hT := hB.1
  have h338 := hT.2.2
  have hw := hS.2.1.1
  have hH6 := hS.2.1.2.1
  obtain ⟨hd1, hd2⟩ := st_draft hS (KpD_rfl h13)
  have hD := st_day hS
  refine c_flood (d := d + 33) hT hD.2.2.2.1 hS.2.2.2.1 hH6 (st_r14 hS) (nrm1 hS.1) h13 (fun J hJ => ⟨_, rfl, ?_, midT hB (hJ.1 lmScr (Or.inr (by decide)) (off_of hS.2.2.1 (off_scr hB hS)))⟩)
  have h2 := sim_kpd (v := R 1 18) h hS hJ
  have e9 : J 319 = I 319 := kpd_319 hS hJ (by decide) (by decide)
  refine m_flood (d := d + 29) h2.1.1 (o := ro) (H := H) (by rw [e9]; exact hD.2.2.2.2) (fun M hM => ?_)
  rw [e9, fd_flood hd1]
  exact dir_mk (sim_dJ h2 hM) (by omega) (by omega)
theorem o_ahead {N d : Nat} {xs : Nat → Int32} {K : Nat → Nat × Nat} {I : Mem} {L : Nat → Nat → Int64} {R : Nat → Nat → Option Nat} {n s : Nat} {x y z : Int32} (h : Sim N xs K I L R n) (hn : n + 6 ≤ lmCells) (hs : s + 876 ≤ lmSlots) : Ok (d + 40) 198 [.ref 0, .int x, .int y, .int z, .ref 337] (K, I, L, R, n, s) (AftC N xs (d + 40) 359 [.ref 318, .int x, .int y, .int z] n s false) := by
  obtain ⟨hB, ⟨o, ro, H, hS⟩, hK, hTp, ⟨p, A, Ss, hP, hA, hPs⟩, h8, h13, h25⟩ := id h
  have hT := hB.1
  have h338 := hT.2.2
  have hw := hS.2.1.1
  have hH6 := hS.2.1.2.1
  have hTe := fun ci => tk_ex (ci := ci) hT hB.2.2.2.2.2
  have hwe : upr I n (fun _ => (0 : Int32)) 319 0 = nI H := by rw [upr_ne (by omega)]; exact hw
  have hD := st_day hS
  obtain ⟨hd1, hd2⟩ := st_draft hS (KpD_rfl h13)
  refine w_ahead (d := d + 38) (TK.k1 hT rfl) ?_
  refine c_ahead (d := d + 33) hT (by omega) (by omega) hD.2.2.2.1 hS.2.2.2.1 hH6 (st_r14 hS) (nrm1 hS.1) h13 (fun hx => ?_) (fun c hc hx hy => ?_) (fun c k hc hk hx hy hz => ?_) (fun c k q hc hk hq hx hy hz => ?_)
  · exact wrq_e1 (mide hB) (m_aheadE1 (d := d + 28) (hTe 16) hx (aft_e h hn (by decide)))
  · subst hx
    exact wrq_e2 (mide hB) (m_aheadE2 (d := d + 28) (hTe 14) hc (fun z => hy ((InR_iff (by decide)).mpr z)) (aft_e h hn (by decide)))
  · subst hx hy
    exact wrq_e3 (mide hB) (m_aheadE3 (d := d + 28) (hTe 17) hc hk hz (aft_e h hn (by decide)))
  · subst hx hy hz
    have hJ := kpd_cday hd1 hd2 k
    have h2 := sim_kpd (v := R 1 18) h hS hJ
    have e9 : cdayM (cpS I 13 1) 13 o H k 319 = I 319 := kpd_319 hS hJ (by decide) (by decide)
    refine wrq_v h2.1.1 (mid0 h2.1) (m_ahead (d := d + 28) h2.1.1 (o := ro) (H := H) (by rw [e9]; exact hD.2.2.2.2) hc hk hq (fun M hM => ?_))
    rw [e9, ahead_eq (stand_iff hd1 k).1 hc hq]
    exact aft_J h2 hM
theorem o_trial1 {N d : Nat} {xs : Nat → Int32} {K : Nat → Nat × Nat} {I : Mem} {L : Nat → Nat → Int64} {R : Nat → Nat → Option Nat} {n s : Nat} {x : Int32} (h : Sim N xs K I L R n) (hn : n + 6 ≤ lmCells) (hs : s + 876 ≤ lmSlots) : Ok (d + 40) 200 [.ref 0, .int x, .int (nI 1), .ref 337] (K, I, L, R, n, s) (AftC N xs (d + 40) 361 [.ref 318, .int x, .int (nI 1)] n s false) := by
  obtain ⟨hB, ⟨o, ro, H, hS⟩, hK, hTp, ⟨p, A, Ss, hP, hA, hPs⟩, h8, h13, h25⟩ := id h
  have hT := hB.1
  have h338 := hT.2.2
  have hw := hS.2.1.1
  have hH6 := hS.2.1.2.1
  have hTe := fun ci => tk_ex (ci := ci) hT hB.2.2.2.2.2
  have hwe : upr I n (fun _ => (0 : Int32)) 319 0 = nI H := by rw [upr_ne (by omega)]; exact hw
  have hD := st_day hS
  obtain ⟨hd1, hd2⟩ := st_draft hS (KpD_rfl h13)
  refine w_trial (d := d + 38) (TK.k1 hT rfl) ?_
  refine c_trial1 (d := d + 32) hT (by omega) (by omega) hD.2.2.2.1 hS.2.2.2.1 hH6 (st_r14 hS) (nrm1 hS.1) h13 (fun hx => ?_) (fun k hk hx => ?_)
  · exact wrq_e1 (mide hB) (m_trialE (d := d + 28) (hTe 14) (fun z => hx ((InR_iff (by decide)).mpr z)) (aft_e h hn (by decide)))
  · subst hx
    rw [try_same]
    have hJ := kpd_tday hd1 hd2 k
    have h2 := sim_kpd (v := R 1 18) h hS hJ
    have e9 : tdayM (cpS I 13 1) 13 o H k 319 = I 319 := kpd_319 hS hJ (by decide) (by decide)
    refine wrq_v h2.1.1 (mid0 h2.1) (m_trial1 (d := d + 28) h2.1.1 (o := ro) (H := H) (by rw [e9]; exact hD.2.2.2.2) hk (fun M hM => ?_))
    rw [e9, open_eq (sim_tday (st_day hd1) k).1]
    exact aft_J h2 hM
theorem o_trial0 {N d : Nat} {xs : Nat → Int32} {K : Nat → Nat × Nat} {I : Mem} {L : Nat → Nat → Int64} {R : Nat → Nat → Option Nat} {n s : Nat} {x : Int32} (h : Sim N xs K I L R n) (hn : n + 6 ≤ lmCells) (hs : s + 876 ≤ lmSlots) : Ok (d + 40) 200 [.ref 0, .int x, .int (nI 0), .ref 337] (K, I, L, R, n, s) (AftC N xs (d + 40) 361 [.ref 318, .int x, .int (nI 0)] n s false) := by
  obtain ⟨hB, ⟨o, ro, H, hS⟩, hK, hTp, ⟨p, A, Ss, hP, hA, hPs⟩, h8, h13, h25⟩ := id h
  have hT := hB.1
  have h338 := hT.2.2
  have hw := hS.2.1.1
  have hH6 := hS.2.1.2.1
  have hTe := fun ci => tk_ex (ci := ci) hT hB.2.2.2.2.2
  have hwe : upr I n (fun _ => (0 : Int32)) 319 0 = nI H := by rw [upr_ne (by omega)]; exact hw
  have hD := st_day hS
  obtain ⟨hd1, hd2⟩ := st_draft hS (KpD_rfl h13)
  refine w_trial (d := d + 38) (TK.k1 hT rfl) ?_
  refine c_trial0 (d := d + 32) hT (by omega) (by omega) hD.2.2.2.1 hS.2.2.2.1 hH6 (st_r14 hS) (nrm1 hS.1) h13 (fun hx => ?_) (fun k hk hx => ?_)
  · exact wrq_e1 (mide hB) (m_trialE (d := d + 28) (hTe 14) (fun z => hx ((InR_iff (by decide)).mpr z)) (aft_e h hn (by decide)))
  · subst hx
    rw [try_same]
    have hJ := kpd_tday hd1 hd2 k
    have h2 := sim_kpd (v := R 1 18) h hS hJ
    have e9 : tdayM (cpS I 13 1) 13 o H k 319 = I 319 := kpd_319 hS hJ (by decide) (by decide)
    refine wrq_v h2.1.1 (mid0 h2.1) (m_trial0 (d := d + 28) h2.1.1 (o := ro) (H := H) (by rw [e9]; exact hD.2.2.2.2) hk (fun M hM => ?_))
    rw [e9, sum_cg (E := fun c => (gonW false (I 319) ro H k).2 (9 + 6 * c + 3)) 25 (fun c hc => sim_c3 (sim_tday (st_day hd1) k).1 hc)]
    exact aft_J h2 hM
theorem try_st {K : Nat → Nat × Nat} {R : Nat → Nat → Option Nat} {n : Nat} {I J : Mem} {o : LawT} {w : Nat → Int32} {ro : RwT} {H k : Nat} {x : Int32} (h : StR K R n I 1 o w ro H) (e : KpD o I J) : SimS (vw 13 (tryM J x o H k)) (gonW false (up1 w 8 x) ro H k).2 ∧ KpD o I (tryM J x o H k) ∧ WB (gonW false (up1 w 8 x) ro H k).2 H := by
  obtain ⟨h1, h2⟩ := st_draft h e
  have h3 := st_seed (x := x) h1
  refine ⟨(sim_tday (st_day h3) k).1, kpd_tday h3 ⟨fun a ha hl => ?_, nrm1 h3.1⟩ k, wb_gon h3.2.1 k⟩
  rw [up2_row (by omega)]; exact h2.1 a ha hl
theorem span_eq {K : Nat → Nat × Nat} {R : Nat → Nat → Option Nat} {n : Nat} {I : Mem} {o : LawT} {w : Nat → Int32} {ro : RwT} {H k : Nat} {b : Bool} (h : StR K R n I 1 o w ro H) (h13 : Nrm (vw 13 I)) : ∀ i, i ≤ 6 → KpD o I (spanF I o H k b i).2 ∧ (spanF I o H k b i).1 = spaW b w ro H k i ∧ (spaW b w ro H k i = -1 ∨ Bd (spaW b w ro H k i) 250)
  | 0 => fun _ => ⟨KpD_rfl h13, rfl, Or.inl rfl⟩
  | i + 1 => fun hi => by
    obtain ⟨i1, i2, i3⟩ := span_eq (k := k) (b := b) h h13 i (by omega)
    obtain ⟨t1, t2, t3⟩ := try_st (k := k) (x := nI (1 + i)) h i1
    have hsum : sumN (tryM (spanF I o H k b i).2 (nI (1 + i)) o H k 14) 25 = spaD w ro H k i := by
      unfold spaD
      rw [show i + 1 = 1 + i by omega]
      exact sum_cg 25 (fun c hc => sim_c1 t1 hc)
    have hbd : Bd (spaD w ro H k i) 250 := by
      unfold spaD
      rw [show i + 1 = 1 + i by omega]
      obtain ⟨a, a1, a2⟩ := sum_nI (D := fun c => (gonW false (up1 w 8 (nI (1 + i))) ro H k).2 (9 + 6 * c + 0)) (m := 9) (by decide) 25 (by decide) (fun j hj => (t3.2.2.2.2.2.1 j hj).1)
      exact ⟨a, by omega, a2⟩
    have hst : spanF I o H k b (i + 1) = spanS o H k b (1 + i) (spanF I o H k b i) := rfl
    rw [hst, spaW_s]
    unfold spanS spaS
    rw [hsum, i2]
    refine ⟨t2, ?_, ?_⟩
    · show (if spaW b w ro H k i = -1 then _ else _) = _
      rcases i3 with e | ⟨a, a1, a2⟩
      · rw [if_pos e, if_pos (by rw [e]; decide)]
      · rw [a2, if_neg (nI_nm1 (by omega)), if_neg (show ¬ nI a < nI 0 from nI_pos (by omega))]
    · rcases i3 with e | ⟨a, a1, a2⟩
      · rw [if_pos (by rw [e]; decide)]; exact Or.inr hbd
      · rw [a2, if_neg (show ¬ nI a < nI 0 from nI_pos (by omega))]
        refine Or.inr ?_
        cases b
        · show Bd (jmin (nI a) (spaD w ro H k i)) 250
          unfold jmin; split
          · exact hbd
          · exact ⟨a, a1, rfl⟩
        · show Bd (jmax (nI a) (spaD w ro H k i)) 250
          unfold jmax; split
          · exact hbd
          · exact ⟨a, a1, rfl⟩
theorem o_span1 {N d : Nat} {xs : Nat → Int32} {K : Nat → Nat × Nat} {I : Mem} {L : Nat → Nat → Int64} {R : Nat → Nat → Option Nat} {n s : Nat} {x : Int32} (h : Sim N xs K I L R n) (hn : n + 6 ≤ lmCells) (hs : s + 876 ≤ lmSlots) : Ok (d + 40) 203 [.ref 0, .int x, .int (nI 1), .ref 337] (K, I, L, R, n, s) (AftC N xs (d + 40) 363 [.ref 318, .int x, .int (nI 1)] n s false) := by
  obtain ⟨hB, ⟨o, ro, H, hS⟩, hK, hTp, ⟨p, A, Ss, hP, hA, hPs⟩, h8, h13, h25⟩ := id h
  have hT := hB.1
  have h338 := hT.2.2
  have hw := hS.2.1.1
  have hH6 := hS.2.1.2.1
  have hTe := fun ci => tk_ex (ci := ci) hT hB.2.2.2.2.2
  have hwe : upr I n (fun _ => (0 : Int32)) 319 0 = nI H := by rw [upr_ne (by omega)]; exact hw
  have hD := st_day hS
  obtain ⟨hd1, hd2⟩ := st_draft hS (KpD_rfl h13)
  refine w_span (d := d + 38) (TK.k1 hT rfl) ?_
  refine c_span1 (d := d + 32) hT (by omega) (by omega) hD.2.2.2.1 hS.2.2.2.1 hH6 (st_r14 hS) (nrm1 hS.1) h13 (fun hx => ?_) (fun k hk hx => ?_)
  · exact wrq_e1 (mide hB) (m_spanE (d := d + 28) (hTe 14) (fun z => hx ((InR_iff (by decide)).mpr z)) (aft_e h hn (by decide)))
  · subst hx
    obtain ⟨hJ, hv, -⟩ := span_eq (k := k) (b := true) hS h13 6 (Nat.le_refl _)
    have h2 := sim_kpd (v := R 1 18) h hS hJ
    have e9 : (spanF I o H k true 6).2 319 = I 319 := kpd_319 hS hJ (by decide) (by decide)
    refine wrq_v h2.1.1 (mid0 h2.1) (m_span1 (d := d + 28) h2.1.1 (o := ro) (H := H) (by rw [e9]; exact hD.2.2.2.2) hk (fun M hM => ?_))
    rw [e9, hv]
    exact aft_J h2 hM
theorem o_span0 {N d : Nat} {xs : Nat → Int32} {K : Nat → Nat × Nat} {I : Mem} {L : Nat → Nat → Int64} {R : Nat → Nat → Option Nat} {n s : Nat} {x : Int32} (h : Sim N xs K I L R n) (hn : n + 6 ≤ lmCells) (hs : s + 876 ≤ lmSlots) : Ok (d + 40) 203 [.ref 0, .int x, .int (nI 0), .ref 337] (K, I, L, R, n, s) (AftC N xs (d + 40) 363 [.ref 318, .int x, .int (nI 0)] n s false) := by
  obtain ⟨hB, ⟨o, ro, H, hS⟩, hK, hTp, ⟨p, A, Ss, hP, hA, hPs⟩, h8, h13, h25⟩ := id h
  have hT := hB.1
  have h338 := hT.2.2
  have hw := hS.2.1.1
  have hH6 := hS.2.1.2.1
  have hTe := fun ci => tk_ex (ci := ci) hT hB.2.2.2.2.2
  have hwe : upr I n (fun _ => (0 : Int32)) 319 0 = nI H := by rw [upr_ne (by omega)]; exact hw
  have hD := st_day hS
  obtain ⟨hd1, hd2⟩ := st_draft hS (KpD_rfl h13)
  refine w_span (d := d + 38) (TK.k1 hT rfl) ?_
  refine c_span0 (d := d + 32) hT (by omega) (by omega) hD.2.2.2.1 hS.2.2.2.1 hH6 (st_r14 hS) (nrm1 hS.1) h13 (fun hx => ?_) (fun k hk hx => ?_)
  · exact wrq_e1 (mide hB) (m_spanE (d := d + 28) (hTe 14) (fun z => hx ((InR_iff (by decide)).mpr z)) (aft_e h hn (by decide)))
  · subst hx
    obtain ⟨hJ, hv, -⟩ := span_eq (k := k) (b := false) hS h13 6 (Nat.le_refl _)
    have h2 := sim_kpd (v := R 1 18) h hS hJ
    have e9 : (spanF I o H k false 6).2 319 = I 319 := kpd_319 hS hJ (by decide) (by decide)
    refine wrq_v h2.1.1 (mid0 h2.1) (m_span0 (d := d + 28) h2.1.1 (o := ro) (H := H) (by rw [e9]; exact hD.2.2.2.2) hk (fun M hM => ?_))
    rw [e9, hv]
    exact aft_J h2 hM
