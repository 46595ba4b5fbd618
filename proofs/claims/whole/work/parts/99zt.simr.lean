/-! PAIRS: cells -/
theorem sim_kpd0 {N : Nat} {xs : Nat → Int32} {K : Nat → Nat × Nat} {I J : Mem} {L : Nat → Nat → Int64} {R : Nat → Nat → Option Nat} {n : Nat} {o : LawT} {w : Nat → Int32} {ro : RwT} {H : Nat} (h : Sim N xs K I L R n) (hS : StR K R n I 1 o w ro H) (e : KpD o I J) : Sim N xs K J L R n := by
  have hr : up2 R 13 18 (R 13 18) = R := by
    funext i j
    by_cases q : i = 13 ∧ j = 18
    · obtain ⟨rfl, rfl⟩ := q; rw [up2_hit]
    · rw [up2_off q]
  have := sim_kpd (v := R 13 18) h hS e
  rw [hr] at this; exact this
theorem dr_01 {w : Nat → Int32} {c : Nat} (h : DrB w) (hc : c < 25) : jshr (drW w 25) (nI c) &&& nI 1 = w (9 + 6 * c + 2) := by
  rw [and1_bt (by omega), dr_bt h hc]
  rcases h c hc with e | e
  · rw [e, if_neg (by decide)]
  · rw [e, if_pos (by decide)]
theorem own_row {S S2 : Mem} {c H : Nat} (h9 : S 9 = S2 9) : ownS S c H = ownS S2 c H := by unfold ownS; rw [h9]
theorem kpd_gain {o : LawT} {I : Mem} {c : Nat} {dr : Int32} (h13 : Nrm (vw 13 I)) (hw : LOw o) : KpD o I (gainF I 1 c dr o).2 := ⟨fun a _ hl => gainF_out hl, Nrm_eq h13 (fun k hk => gainF_out (rk_off hw (by omega)))⟩
theorem kpd_sink {o : LawT} {I : Mem} {c : Nat} {dr : Int32} (h13 : Nrm (vw 13 I)) (hw : LOw o) : KpD o I (sinkF I 1 c dr o).2 := ⟨fun a _ hl => sinkF_out hl, Nrm_eq h13 (fun k hk => sinkF_out (rk_off hw (by omega)))⟩
theorem if_cg {p q : Prop} [Decidable p] [Decidable q] {α : Type} {x y : α} (h : p ↔ q) : (if p then x else y) = if q then x else y := by
  by_cases e : p
  · rw [if_pos e, if_pos (h.mp e)]
  · rw [if_neg e, if_neg (fun z => e (h.mpr z))]
theorem o_cell0 {N d : Nat} {xs : Nat → Int32} {K : Nat → Nat × Nat} {I : Mem} {L : Nat → Nat → Int64} {R : Nat → Nat → Option Nat} {n s : Nat} {x : Int32} (h : Sim N xs K I L R n) (hn : n + 6 ≤ lmCells) (hs : s + 876 ≤ lmSlots) : Ok (d + 40) 106 [.ref 0, .int x, .int (nI 0), .ref 337] (K, I, L, R, n, s) (AftC N xs (d + 40) 255 [.ref 318, .int x, .int (nI 0)] n s false) := by
  obtain ⟨hB, ⟨o, ro, H, hS⟩, hK, hTp, ⟨p, A, Ss, hP, hA, hPs⟩, h8, h13, h25⟩ := id h
  have hT := hB.1
  have h338 := hT.2.2
  have hw := hS.2.1.1
  have hH6 := hS.2.1.2.1
  have hTe := fun ci => tk_ex (ci := ci) hT hB.2.2.2.2.2
  have hwe : upr I n (fun _ => (0 : Int32)) 319 0 = nI H := by rw [upr_ne (by omega)]; exact hw
  refine w_cell (d := d + 38) (TK.k1 hT rfl) ?_
  refine c_cell0 (d := d + 37) (H := H) (o := o) hT (by omega) (by omega) (fun hx => ?_) (fun c hc hx => ?_)
  · exact wrq_e1 (mide hB) (m_cellE1 (d := d + 28) (hTe 16) hx (aft_e h hn (by decide)))
  · subst hx
    refine wrq_v hT (mid0 hB) (m_cell0 (d := d + 28) hT hc ?_)
    rw [show I 2 c = I 319 (9 + 6 * c + 0) from sim_c1 (b := 1) (I := I) hS.1 hc]
    exact aft_v h
theorem o_cell1 {N d : Nat} {xs : Nat → Int32} {K : Nat → Nat × Nat} {I : Mem} {L : Nat → Nat → Int64} {R : Nat → Nat → Option Nat} {n s : Nat} {x : Int32} (h : Sim N xs K I L R n) (hn : n + 6 ≤ lmCells) (hs : s + 876 ≤ lmSlots) : Ok (d + 40) 106 [.ref 0, .int x, .int (nI 1), .ref 337] (K, I, L, R, n, s) (AftC N xs (d + 40) 255 [.ref 318, .int x, .int (nI 1)] n s false) := by
  obtain ⟨hB, ⟨o, ro, H, hS⟩, hK, hTp, ⟨p, A, Ss, hP, hA, hPs⟩, h8, h13, h25⟩ := id h
  have hT := hB.1
  have h338 := hT.2.2
  have hw := hS.2.1.1
  have hH6 := hS.2.1.2.1
  have hTe := fun ci => tk_ex (ci := ci) hT hB.2.2.2.2.2
  have hwe : upr I n (fun _ => (0 : Int32)) 319 0 = nI H := by rw [upr_ne (by omega)]; exact hw
  refine w_cell (d := d + 38) (TK.k1 hT rfl) ?_
  refine c_cell1 (d := d + 37) (H := H) (o := o) hT (by omega) (by omega) (fun hx => ?_) (fun c hc hx => ?_)
  · exact wrq_e1 (mide hB) (m_cellE1 (d := d + 28) (hTe 16) hx (aft_e h hn (by decide)))
  · subst hx
    refine wrq_v hT (mid0 hB) (m_cell1 (d := d + 28) hT hc ?_)
    rw [show I 3 c = I 319 (9 + 6 * c + 1) from sim_c2 (b := 1) (I := I) hS.1 hc]
    exact aft_v h
theorem o_cell3 {N d : Nat} {xs : Nat → Int32} {K : Nat → Nat × Nat} {I : Mem} {L : Nat → Nat → Int64} {R : Nat → Nat → Option Nat} {n s : Nat} {x : Int32} (h : Sim N xs K I L R n) (hn : n + 6 ≤ lmCells) (hs : s + 876 ≤ lmSlots) : Ok (d + 40) 106 [.ref 0, .int x, .int (nI 3), .ref 337] (K, I, L, R, n, s) (AftC N xs (d + 40) 255 [.ref 318, .int x, .int (nI 3)] n s false) := by
  obtain ⟨hB, ⟨o, ro, H, hS⟩, hK, hTp, ⟨p, A, Ss, hP, hA, hPs⟩, h8, h13, h25⟩ := id h
  have hT := hB.1
  have h338 := hT.2.2
  have hw := hS.2.1.1
  have hH6 := hS.2.1.2.1
  have hTe := fun ci => tk_ex (ci := ci) hT hB.2.2.2.2.2
  have hwe : upr I n (fun _ => (0 : Int32)) 319 0 = nI H := by rw [upr_ne (by omega)]; exact hw
  refine w_cell (d := d + 38) (TK.k1 hT rfl) ?_
  refine c_cell3 (d := d + 37) (H := H) (o := o) hT (by omega) (by omega) (fun hx => ?_) (fun c hc hx => ?_)
  · exact wrq_e1 (mide hB) (m_cellE1 (d := d + 28) (hTe 16) hx (aft_e h hn (by decide)))
  · subst hx
    refine wrq_v hT (mid0 hB) (m_cell3 (d := d + 28) hT hc ?_)
    rw [show I 4 c = I 319 (9 + 6 * c + 3) from sim_c3 (b := 1) (I := I) hS.1 hc]
    exact aft_v h
theorem o_cell4 {N d : Nat} {xs : Nat → Int32} {K : Nat → Nat × Nat} {I : Mem} {L : Nat → Nat → Int64} {R : Nat → Nat → Option Nat} {n s : Nat} {x : Int32} (h : Sim N xs K I L R n) (hn : n + 6 ≤ lmCells) (hs : s + 876 ≤ lmSlots) : Ok (d + 40) 106 [.ref 0, .int x, .int (nI 4), .ref 337] (K, I, L, R, n, s) (AftC N xs (d + 40) 255 [.ref 318, .int x, .int (nI 4)] n s false) := by
  obtain ⟨hB, ⟨o, ro, H, hS⟩, hK, hTp, ⟨p, A, Ss, hP, hA, hPs⟩, h8, h13, h25⟩ := id h
  have hT := hB.1
  have h338 := hT.2.2
  have hw := hS.2.1.1
  have hH6 := hS.2.1.2.1
  have hTe := fun ci => tk_ex (ci := ci) hT hB.2.2.2.2.2
  have hwe : upr I n (fun _ => (0 : Int32)) 319 0 = nI H := by rw [upr_ne (by omega)]; exact hw
  refine w_cell (d := d + 38) (TK.k1 hT rfl) ?_
  refine c_cell4 (d := d + 37) (H := H) (o := o) hT (by omega) (by omega) (fun hx => ?_) (fun c hc hx => ?_)
  · exact wrq_e1 (mide hB) (m_cellE1 (d := d + 28) (hTe 16) hx (aft_e h hn (by decide)))
  · subst hx
    refine wrq_v hT (mid0 hB) (m_cell4 (d := d + 28) hT hc ?_)
    rw [show I 5 c = I 319 (9 + 6 * c + 4) from sim_c4 (b := 1) (I := I) hS.1 hc]
    exact aft_v h
theorem o_cell5 {N d : Nat} {xs : Nat → Int32} {K : Nat → Nat × Nat} {I : Mem} {L : Nat → Nat → Int64} {R : Nat → Nat → Option Nat} {n s : Nat} {x : Int32} (h : Sim N xs K I L R n) (hn : n + 6 ≤ lmCells) (hs : s + 876 ≤ lmSlots) : Ok (d + 40) 106 [.ref 0, .int x, .int (nI 5), .ref 337] (K, I, L, R, n, s) (AftC N xs (d + 40) 255 [.ref 318, .int x, .int (nI 5)] n s false) := by
  obtain ⟨hB, ⟨o, ro, H, hS⟩, hK, hTp, ⟨p, A, Ss, hP, hA, hPs⟩, h8, h13, h25⟩ := id h
  have hT := hB.1
  have h338 := hT.2.2
  have hw := hS.2.1.1
  have hH6 := hS.2.1.2.1
  have hTe := fun ci => tk_ex (ci := ci) hT hB.2.2.2.2.2
  have hwe : upr I n (fun _ => (0 : Int32)) 319 0 = nI H := by rw [upr_ne (by omega)]; exact hw
  refine w_cell (d := d + 38) (TK.k1 hT rfl) ?_
  refine c_cell5 (d := d + 37) (H := H) (o := o) hT (by omega) (by omega) (fun hx => ?_) (fun c hc hx => ?_)
  · exact wrq_e1 (mide hB) (m_cellE1 (d := d + 28) (hTe 16) hx (aft_e h hn (by decide)))
  · subst hx
    refine wrq_v hT (mid0 hB) (m_cell5 (d := d + 28) hT hc ?_)
    rw [show I 6 c = I 319 (9 + 6 * c + 5) from sim_c5 (b := 1) (I := I) hS.1 hc]
    exact aft_v h
theorem o_cell2 {N d : Nat} {xs : Nat → Int32} {K : Nat → Nat × Nat} {I : Mem} {L : Nat → Nat → Int64} {R : Nat → Nat → Option Nat} {n s : Nat} {x : Int32} (h : Sim N xs K I L R n) (hn : n + 6 ≤ lmCells) (hs : s + 876 ≤ lmSlots) : Ok (d + 40) 106 [.ref 0, .int x, .int (nI 2), .ref 337] (K, I, L, R, n, s) (AftC N xs (d + 40) 255 [.ref 318, .int x, .int (nI 2)] n s false) := by
  obtain ⟨hB, ⟨o, ro, H, hS⟩, hK, hTp, ⟨p, A, Ss, hP, hA, hPs⟩, h8, h13, h25⟩ := id h
  have hT := hB.1
  have h338 := hT.2.2
  have hw := hS.2.1.1
  have hH6 := hS.2.1.2.1
  have hTe := fun ci => tk_ex (ci := ci) hT hB.2.2.2.2.2
  have hwe : upr I n (fun _ => (0 : Int32)) 319 0 = nI H := by rw [upr_ne (by omega)]; exact hw
  refine w_cell (d := d + 38) (TK.k1 hT rfl) ?_
  refine c_cell2 (d := d + 37) (H := H) (o := o) hT (by omega) (by omega) (fun hx => ?_) (fun c hc hx => ?_)
  · exact wrq_e1 (mide hB) (m_cellE1 (d := d + 28) (hTe 16) hx (aft_e h hn (by decide)))
  · subst hx
    refine wrq_v hT (mid0 hB) (m_cell2 (d := d + 28) hT hc ?_)
    rw [(sim_r0 hS.1).2.1, dr_01 hS.1.2.2.2 hc]
    exact aft_v h
theorem o_cell6 {N d : Nat} {xs : Nat → Int32} {K : Nat → Nat × Nat} {I : Mem} {L : Nat → Nat → Int64} {R : Nat → Nat → Option Nat} {n s : Nat} {x : Int32} (h : Sim N xs K I L R n) (hn : n + 6 ≤ lmCells) (hs : s + 876 ≤ lmSlots) : Ok (d + 40) 106 [.ref 0, .int x, .int (nI 6), .ref 337] (K, I, L, R, n, s) (AftC N xs (d + 40) 255 [.ref 318, .int x, .int (nI 6)] n s false) := by
  obtain ⟨hB, ⟨o, ro, H, hS⟩, hK, hTp, ⟨p, A, Ss, hP, hA, hPs⟩, h8, h13, h25⟩ := id h
  have hT := hB.1
  have h338 := hT.2.2
  have hw := hS.2.1.1
  have hH6 := hS.2.1.2.1
  have hTe := fun ci => tk_ex (ci := ci) hT hB.2.2.2.2.2
  have hwe : upr I n (fun _ => (0 : Int32)) 319 0 = nI H := by rw [upr_ne (by omega)]; exact hw
  refine w_cell (d := d + 38) (TK.k1 hT rfl) ?_
  refine c_cell6 (d := d + 34) (H := H) (o := o) hT (by omega) (by omega) (fun hx => ?_) (fun c hc hx => ?_)
  · exact wrq_e1 (mide hB) (m_cellE1 (d := d + 28) (hTe 16) hx (aft_e h hn (by decide)))
  · subst hx
    refine wrq_v hT (mid0 hB) (m_cell6 (d := d + 28) hT hc ?_)
    rw [show drainC (I 1 11) = alW (I 319) from drain_al (S := vw 1 I) hS.1]
    exact aft_v h
theorem o_cell7 {N d : Nat} {xs : Nat → Int32} {K : Nat → Nat × Nat} {I : Mem} {L : Nat → Nat → Int64} {R : Nat → Nat → Option Nat} {n s : Nat} {x : Int32} (h : Sim N xs K I L R n) (hn : n + 6 ≤ lmCells) (hs : s + 876 ≤ lmSlots) : Ok (d + 40) 106 [.ref 0, .int x, .int (nI 7), .ref 337] (K, I, L, R, n, s) (AftC N xs (d + 40) 255 [.ref 318, .int x, .int (nI 7)] n s false) := by
  obtain ⟨hB, ⟨o, ro, H, hS⟩, hK, hTp, ⟨p, A, Ss, hP, hA, hPs⟩, h8, h13, h25⟩ := id h
  have hT := hB.1
  have h338 := hT.2.2
  have hw := hS.2.1.1
  have hH6 := hS.2.1.2.1
  have hTe := fun ci => tk_ex (ci := ci) hT hB.2.2.2.2.2
  have hwe : upr I n (fun _ => (0 : Int32)) 319 0 = nI H := by rw [upr_ne (by omega)]; exact hw
  refine w_cell (d := d + 38) (TK.k1 hT rfl) ?_
  refine c_cell7 (d := d + 34) (H := H) (o := o) hT (by omega) (by omega) (fun hx => ?_) (fun c hc hx => ?_)
  · exact wrq_e1 (mide hB) (m_cellE1 (d := d + 28) (hTe 16) hx (aft_e h hn (by decide)))
  · subst hx
    refine wrq_v hT (mid0 hB) (m_cell7 (d := d + 28) hT hc ?_)
    rw [let_eq (low_drain _), show drainC (I 1 11) = alW (I 319) from drain_al (S := vw 1 I) hS.1]
    exact aft_v h
theorem o_cell8 {N d : Nat} {xs : Nat → Int32} {K : Nat → Nat × Nat} {I : Mem} {L : Nat → Nat → Int64} {R : Nat → Nat → Option Nat} {n s : Nat} {x : Int32} (h : Sim N xs K I L R n) (hn : n + 6 ≤ lmCells) (hs : s + 876 ≤ lmSlots) : Ok (d + 40) 106 [.ref 0, .int x, .int (nI 8), .ref 337] (K, I, L, R, n, s) (AftC N xs (d + 40) 255 [.ref 318, .int x, .int (nI 8)] n s false) := by
  obtain ⟨hB, ⟨o, ro, H, hS⟩, hK, hTp, ⟨p, A, Ss, hP, hA, hPs⟩, h8, h13, h25⟩ := id h
  have hT := hB.1
  have h338 := hT.2.2
  have hw := hS.2.1.1
  have hH6 := hS.2.1.2.1
  have hTe := fun ci => tk_ex (ci := ci) hT hB.2.2.2.2.2
  have hwe : upr I n (fun _ => (0 : Int32)) 319 0 = nI H := by rw [upr_ne (by omega)]; exact hw
  refine w_cell (d := d + 38) (TK.k1 hT rfl) ?_
  refine c_cell8 (d := d + 36) (H := H) (o := o) hT (by omega) (by omega) (fun hx => ?_) (fun c hc hx => ?_)
  · exact wrq_e1 (mide hB) (m_cellE1 (d := d + 28) (hTe 16) hx (aft_e h hn (by decide)))
  · subst hx
    refine wrq_v hT (mid0 hB) (m_cell8 (d := d + 28) hT hc ?_)
    rw [if_cg (opn_iff hS.1)]
    exact aft_v h
theorem o_cell9 {N d : Nat} {xs : Nat → Int32} {K : Nat → Nat × Nat} {I : Mem} {L : Nat → Nat → Int64} {R : Nat → Nat → Option Nat} {n s : Nat} {x : Int32} (h : Sim N xs K I L R n) (hn : n + 6 ≤ lmCells) (hs : s + 876 ≤ lmSlots) : Ok (d + 40) 106 [.ref 0, .int x, .int (nI 9), .ref 337] (K, I, L, R, n, s) (AftC N xs (d + 40) 255 [.ref 318, .int x, .int (nI 9)] n s false) := by
  obtain ⟨hB, ⟨o, ro, H, hS⟩, hK, hTp, ⟨p, A, Ss, hP, hA, hPs⟩, h8, h13, h25⟩ := id h
  have hT := hB.1
  have h338 := hT.2.2
  have hw := hS.2.1.1
  have hH6 := hS.2.1.2.1
  have hTe := fun ci => tk_ex (ci := ci) hT hB.2.2.2.2.2
  have hwe : upr I n (fun _ => (0 : Int32)) 319 0 = nI H := by rw [upr_ne (by omega)]; exact hw
  refine w_cell (d := d + 38) (TK.k1 hT rfl) ?_
  refine c_cell9 (d := d + 33) (H := H) (o := o) hT (by omega) (by omega) hS.2.2.1 hS.2.2.2.1 (fun hx => ?_) (fun c hc hx => ?_)
  · exact wrq_e1 (mide hB) (m_cellE1 (d := d + 28) (hTe 16) hx (aft_e h hn (by decide)))
  · subst hx
    have ha := ask_sim (c := c) hS.1 hc hS.2.1.2.2.1
    have hv : (gainF I 1 c (drainC (I 1 11)) o).1 = rgain (I 319) c ro := gain_eq hS.2.2.2.2.1 ha.1 ha.2 hc
    have hJ := kpd_gain (c := c) (dr := drainC (I 1 11)) h13 hS.2.2.2.1
    have h2 := sim_kpd0 h hS hJ
    have e9 : (gainF I 1 c (drainC (I 1 11)) o).2 319 = I 319 := kpd_319 hS hJ (by decide) (by decide)
    refine wrq_v hT (mid0 h2.1) (m_cell9 (d := d + 28) hT hc (o := ro) (by rw [e9]; exact hS.2.2.2.2.2.1) (fun M hM => ?_))
    rw [e9, hv]
    exact aft_J h2 hM
theorem o_cell10 {N d : Nat} {xs : Nat → Int32} {K : Nat → Nat × Nat} {I : Mem} {L : Nat → Nat → Int64} {R : Nat → Nat → Option Nat} {n s : Nat} {x : Int32} (h : Sim N xs K I L R n) (hn : n + 6 ≤ lmCells) (hs : s + 876 ≤ lmSlots) : Ok (d + 40) 106 [.ref 0, .int x, .int (nI 10), .ref 337] (K, I, L, R, n, s) (AftC N xs (d + 40) 255 [.ref 318, .int x, .int (nI 10)] n s false) := by
  obtain ⟨hB, ⟨o, ro, H, hS⟩, hK, hTp, ⟨p, A, Ss, hP, hA, hPs⟩, h8, h13, h25⟩ := id h
  have hT := hB.1
  have h338 := hT.2.2
  have hw := hS.2.1.1
  have hH6 := hS.2.1.2.1
  have hTe := fun ci => tk_ex (ci := ci) hT hB.2.2.2.2.2
  have hwe : upr I n (fun _ => (0 : Int32)) 319 0 = nI H := by rw [upr_ne (by omega)]; exact hw
  refine w_cell (d := d + 38) (TK.k1 hT rfl) ?_
  refine c_cell10 (d := d + 33) (H := H) (o := o) hT (by omega) (by omega) hS.2.2.1 hS.2.2.2.1 (fun hx => ?_) (fun c hc hx => ?_)
  · exact wrq_e1 (mide hB) (m_cellE1 (d := d + 28) (hTe 16) hx (aft_e h hn (by decide)))
  · subst hx
    have ha := ask_sim (c := c) hS.1 hc hS.2.1.2.2.1
    have hv : (sinkF I 1 c (drainC (I 1 11)) o).1 = rsink (I 319) c ro := sink_eq hS.2.2.2.2.1 ha.1 hc
    have hJ := kpd_sink (c := c) (dr := drainC (I 1 11)) h13 hS.2.2.2.1
    have h2 := sim_kpd0 h hS hJ
    have e9 : (sinkF I 1 c (drainC (I 1 11)) o).2 319 = I 319 := kpd_319 hS hJ (by decide) (by decide)
    refine wrq_v hT (mid0 h2.1) (m_cell10 (d := d + 28) hT hc (o := ro) (by rw [e9]; exact hS.2.2.2.2.2.1) (fun M hM => ?_))
    rw [e9, hv]
    exact aft_J h2 hM
theorem o_cell14 {N d : Nat} {xs : Nat → Int32} {K : Nat → Nat × Nat} {I : Mem} {L : Nat → Nat → Int64} {R : Nat → Nat → Option Nat} {n s : Nat} {x : Int32} (h : Sim N xs K I L R n) (hn : n + 6 ≤ lmCells) (hs : s + 876 ≤ lmSlots) : Ok (d + 40) 106 [.ref 0, .int x, .int (nI 14), .ref 337] (K, I, L, R, n, s) (AftC N xs (d + 40) 255 [.ref 318, .int x, .int (nI 14)] n s false) := by
  obtain ⟨hB, ⟨o, ro, H, hS⟩, hK, hTp, ⟨p, A, Ss, hP, hA, hPs⟩, h8, h13, h25⟩ := id h
  have hT := hB.1
  have h338 := hT.2.2
  have hw := hS.2.1.1
  have hH6 := hS.2.1.2.1
  have hTe := fun ci => tk_ex (ci := ci) hT hB.2.2.2.2.2
  have hwe : upr I n (fun _ => (0 : Int32)) 319 0 = nI H := by rw [upr_ne (by omega)]; exact hw
  have hD := st_day hS
  obtain ⟨hd1, hd2⟩ := st_draft hS (KpD_rfl h13)
  refine w_cell (d := d + 38) (TK.k1 hT rfl) ?_
  refine c_cell14 (d := d + 31) (H := H) (o := o) hT (by omega) (by omega) hD.2.2.2.1 hS.2.2.2.1 hH6 (st_r14 hS) (nrm1 hS.1) h13 (fun hx => ?_) (fun c hc hx J hJ => ?_)
  · exact wrq_e1 (mide hB) (m_cellE1 (d := d + 28) (hTe 16) hx (aft_e h hn (by decide)))
  · subst hx
    have h2 := sim_kpd (v := R 1 18) h hS hJ
    have e9 : J 319 = I 319 := kpd_319 hS hJ (by decide) (by decide)
    refine wrq_v h2.1.1 (mid0 h2.1) (m_cell14 (d := d + 28) h2.1.1 hc (o := ro) (H := H) (by rw [e9]; exact hD.2.2.2.2) (fun M hM => ?_))
    rw [e9, fd_ripe hd1 hc]
    exact aft_J h2 hM
theorem o_cell15 {N d : Nat} {xs : Nat → Int32} {K : Nat → Nat × Nat} {I : Mem} {L : Nat → Nat → Int64} {R : Nat → Nat → Option Nat} {n s : Nat} {x : Int32} (h : Sim N xs K I L R n) (hn : n + 6 ≤ lmCells) (hs : s + 876 ≤ lmSlots) : Ok (d + 40) 106 [.ref 0, .int x, .int (nI 15), .ref 337] (K, I, L, R, n, s) (AftC N xs (d + 40) 255 [.ref 318, .int x, .int (nI 15)] n s false) := by
  obtain ⟨hB, ⟨o, ro, H, hS⟩, hK, hTp, ⟨p, A, Ss, hP, hA, hPs⟩, h8, h13, h25⟩ := id h
  have hT := hB.1
  have h338 := hT.2.2
  have hw := hS.2.1.1
  have hH6 := hS.2.1.2.1
  have hTe := fun ci => tk_ex (ci := ci) hT hB.2.2.2.2.2
  have hwe : upr I n (fun _ => (0 : Int32)) 319 0 = nI H := by rw [upr_ne (by omega)]; exact hw
  have hD := st_day hS
  obtain ⟨hd1, hd2⟩ := st_draft hS (KpD_rfl h13)
  refine w_cell (d := d + 38) (TK.k1 hT rfl) ?_
  refine c_cell15 (d := d + 31) (H := H) (o := o) hT (by omega) (by omega) hD.2.2.2.1 hS.2.2.2.1 hH6 (st_r14 hS) (nrm1 hS.1) h13 (fun hx => ?_) (fun c hc hx J hJ => ?_)
  · exact wrq_e1 (mide hB) (m_cellE1 (d := d + 28) (hTe 16) hx (aft_e h hn (by decide)))
  · subst hx
    have h2 := sim_kpd (v := R 1 18) h hS hJ
    have e9 : J 319 = I 319 := kpd_319 hS hJ (by decide) (by decide)
    refine wrq_v h2.1.1 (mid0 h2.1) (m_cell15 (d := d + 28) h2.1.1 hc (o := ro) (H := H) (by rw [e9]; exact hD.2.2.2.2) (fun M hM => ?_))
    rw [e9, fd_open hd1]
    exact aft_J h2 hM
theorem o_cell16 {N d : Nat} {xs : Nat → Int32} {K : Nat → Nat × Nat} {I : Mem} {L : Nat → Nat → Int64} {R : Nat → Nat → Option Nat} {n s : Nat} {x : Int32} (h : Sim N xs K I L R n) (hn : n + 6 ≤ lmCells) (hs : s + 876 ≤ lmSlots) : Ok (d + 40) 106 [.ref 0, .int x, .int (nI 16), .ref 337] (K, I, L, R, n, s) (AftC N xs (d + 40) 255 [.ref 318, .int x, .int (nI 16)] n s false) := by
  obtain ⟨hB, ⟨o, ro, H, hS⟩, hK, hTp, ⟨p, A, Ss, hP, hA, hPs⟩, h8, h13, h25⟩ := id h
  have hT := hB.1
  have h338 := hT.2.2
  have hw := hS.2.1.1
  have hH6 := hS.2.1.2.1
  have hTe := fun ci => tk_ex (ci := ci) hT hB.2.2.2.2.2
  have hwe : upr I n (fun _ => (0 : Int32)) 319 0 = nI H := by rw [upr_ne (by omega)]; exact hw
  refine w_cell (d := d + 38) (TK.k1 hT rfl) ?_
  refine c_cell16 (d := d + 35) (H := H) (o := o) hT (by omega) (by omega) (st_H hS) hH6 (fun hx => ?_) (fun c hc hx => ?_)
  · exact wrq_e1 (mide hB) (m_cellE1 (d := d + 28) (hTe 16) hx (aft_e h hn (by decide)))
  · subst hx
    refine wrq_v hT (mid0 hB) (m_cell16 (d := d + 28) hT hc hw hH6 ?_)
    rw [own_row (sim_row hS.1 (show 9 < 10 by decide))]
    exact aft_v h
theorem o_cellX {N d : Nat} {xs : Nat → Int32} {K : Nat → Nat × Nat} {I : Mem} {L : Nat → Nat → Int64} {R : Nat → Nat → Option Nat} {n s : Nat} {x y : Int32} (hy : ¬ InR y 17) (h : Sim N xs K I L R n) (hn : n + 6 ≤ lmCells) (hs : s + 876 ≤ lmSlots) : Ok (d + 40) 106 [.ref 0, .int x, .int y, .ref 337] (K, I, L, R, n, s) (AftC N xs (d + 40) 255 [.ref 318, .int x, .int y] n s false) := by
  obtain ⟨hB, ⟨o, ro, H, hS⟩, hK, hTp, ⟨p, A, Ss, hP, hA, hPs⟩, h8, h13, h25⟩ := id h
  have hT := hB.1
  have h338 := hT.2.2
  have hw := hS.2.1.1
  have hH6 := hS.2.1.2.1
  have hTe := fun ci => tk_ex (ci := ci) hT hB.2.2.2.2.2
  have hwe : upr I n (fun _ => (0 : Int32)) 319 0 = nI H := by rw [upr_ne (by omega)]; exact hw
  refine w_cell (d := d + 38) (TK.k1 hT rfl) ?_
  refine c_cellX (d := d + 37) hT (by omega) (by omega) hy (fun hx => ?_) (fun c hc hx => ?_)
  · exact wrq_e1 (mide hB) (m_cellE1 (d := d + 28) (hTe 16) hx (aft_e h hn (by decide)))
  · subst hx
    exact wrq_e2 (mide hB) (m_cellE2 (d := d + 28) (hTe 17) hc hy (aft_e h hn (by decide)))
