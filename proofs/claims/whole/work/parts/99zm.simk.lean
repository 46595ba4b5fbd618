/-! PAIRS: asks -/
theorem dir_mk {N : Nat} {xs : Nat → Int32} {K : Nat → Nat × Nat} {I : Mem} {L : Nat → Nat → Int64} {R : Nat → Nat → Option Nat} {n s n2 s2 : Nat} {v : Int32} (h : Sim N xs K I L R n2) (hn : n2 ≤ n + 6) (hs : s2 ≤ s + 876) : DirR N xs n s v (.inl (some (.int v))) (K, I, L, R, n2, s2) := ⟨rfl, h, hn, hs⟩
theorem aft_mk {N : Nat} {xs : Nat → Int32} {K : Nat → Nat × Nat} {I : Mem} {L : Nat → Nat → Int64} {R : Nat → Nat → Option Nat} {n s n2 s2 : Nat} {v : Int32} (h : Sim N xs K I (up2 L 337 0 v.toInt64) R n2) (h0 : I 318 0 = nI 0) (hn : n2 ≤ n + 6) (hs : s2 ≤ s + 876) : AftR N xs n s 0 false (.inl (some (.int v))) (K, I, up2 L 337 0 v.toInt64, R, n2, s2) := ⟨v, rfl, h0, fun _ => lh, h, hn, hs⟩
theorem aft_mkE {N : Nat} {xs : Nat → Int32} {K : Nat → Nat × Nat} {I : Mem} {L : Nat → Nat → Int64} {R : Nat → Nat → Option Nat} {n s n2 s2 k : Nat} {z : Bool} {v : Int32} (h : Sim N xs K I L R n2) (h0 : I 318 0 = nI k) (hk : ¬ k = 0) (hn : n2 ≤ n + 6) (hs : s2 ≤ s + 876) : AftR N xs n s k z (.inl (some (.int v))) (K, I, L, R, n2, s2) := ⟨v, rfl, h0, fun e => absurd e hk, h, hn, hs⟩
theorem open_eq {S : Mem} {w : Nat → Int32} (h : SimS S w) : openS S = openS (Sv w) := by
  unfold openS
  simp only [openQ, sim_row h (show 1 < 10 by decide), sim_row h (show 2 < 10 by decide), sim_row h (show 3 < 10 by decide)]
theorem peat_eq {S : Mem} {w : Nat → Int32} (h : SimS S w) : peatS S = peatS (Sv w) := by
  unfold peatS
  rw [sim_row h (show 1 < 10 by decide)]
theorem xor_0 (x : Int32) : x ^^^ nI 0 = x := Int32.xor_zero
theorem nim_eq {I : Mem} {w : Nat → Int32} {x : Int32} (h : SimS (vw 1 I) w) : nimC (I 2) x = heaC (Sv w) x 25 := by
  unfold nimC heaC
  rw [show I 2 = Sv w 1 from sim_row h (k := 1) (by decide)]
  refine forN_cg 25 (fun c hc f => ?_)
  by_cases e : hasP x c
  · rw [if_pos e, if_pos e]
  · rw [if_neg e, if_neg e, xor_0]
theorem most_cg {D E : Nat → Int32} : ∀ i, (∀ c, c < i → D c = E c) → mostN D i = mostN E i
  | 0 => fun _ => rfl
  | i + 1 => fun e => by
    have ih := most_cg i (fun c hc => e c (by omega))
    have hl : mostN E i < i + 1 := by
      by_cases z : i = 0
      · subst z; show 0 < 1; omega
      · have := mostN_lt E i (by omega); omega
    unfold mostN
    rw [ih, e _ hl, e i (by omega)]
theorem cold_eq {S : Mem} {w : Nat → Int32} {H : Nat} (h : SimS S w) : coldS S H = coldS (Sv w) H := by
  have e : ∀ k, lackS S k = lackS (Sv w) k := fun k => by unfold lackS; rw [sim_row h (show 7 < 10 by decide), sim_row h (show 8 < 10 by decide)]
  unfold coldS
  refine forN_cg H (fun k hk f => ?_)
  rw [e k]
theorem stag_eq {S : Mem} {w : Nat → Int32} {x : Int32} (h : SimS S w) : stagS S x 25 = stgS (Sv w) x 25 := by
  unfold stagS stgS
  rw [sim_row h (show 5 < 10 by decide), sim_row h (show 3 < 10 by decide)]
  refine forN_cg 25 (fun c hc f => ?_)
  by_cases e : Sv w 5 c = x
  · rw [if_pos e, if_pos e]
  · rw [if_neg e, if_neg e, add_0]
theorem low_peat {S : Mem} : low25 (peatS S) := by
  have : ∀ i, i ≤ 25 → low25 (forN (fun c f => if nI 0 < S 1 c then f ||| jshl (nI 1) (nI c) else f) (nI 0) i) := by
    intro i
    induction i with
    | zero => intro _; exact low25_0
    | succ i ih =>
      intro hi
      show low25 (if nI 0 < S 1 i then _ else _)
      split
      · exact low25_or (ih (by omega)) (low25_s1 (by omega))
      · exact ih (by omega)
  exact this 25 (Nat.le_refl _)
theorem hag_eq {p : Int32} {c : Nat} (hc : c < 25) : spreadC (p &&& jshl (nI 1) (nI c)) p = pieC c p := by
  unfold pieC
  rw [pieN_it (low25_and (low25_s1 hc)), spread_it, and_cm p]
theorem rich_eq {D w r : Nat → Int32} {H : Nat} (hr : ∀ i, i < H → r i = nI 0) (hD : ∀ i, i < H → D i = w (159 + 4 * i + 2)) (hH : H ≤ 6) : ∀ i, i ≤ H → rcF w r i = if i = 0 then -1 else nI (mostN D i)
  | 0 => fun _ => rfl
  | i + 1 => fun hi => by
    have ih := rich_eq hr hD hH i (by omega)
    by_cases z : i = 0
    · subst z
      rw [rcF_s, if_pos (hr 0 (by omega)), if_pos (show rcF w r 0 = -1 from rfl), if_neg (by omega)]
      show nI 0 = nI (if D 0 < D 0 then 0 else 0)
      split <;> rfl
    · rw [if_neg z] at ih
      have hl := mostN_lt D i (by omega)
      rw [rcF_s, if_pos (hr i (by omega)), ih, if_neg (nI_nm1 (by omega)), if_neg (Nat.succ_ne_zero i), tn_nI (by omega), ← hD _ (by omega), ← hD i (by omega)]
      show _ = nI (if D (mostN D i) < D i then i else mostN D i)
      split <;> rfl
theorem o_drained {N d : Nat} {xs : Nat → Int32} {K : Nat → Nat × Nat} {I : Mem} {L : Nat → Nat → Int64} {R : Nat → Nat → Option Nat} {n s : Nat} (h : Sim N xs K I L R n) : Ok (d + 40) 15 [.ref 0] (K, I, L, R, n, s) (DirC N xs (d + 40) 305 [.ref 318] n s) := by
  obtain ⟨hB, ⟨o, ro, H, hS⟩, hK, hTp, ⟨p, A, Ss, hP, hA, hPs⟩, h8, h13, h25⟩ := id h
  have hT := hB.1
  have h338 := hT.2.2
  have hw := hS.2.1.1
  have hH6 := hS.2.1.2.1
  refine c_tDrained (d := d + 36) hT ⟨_, rfl, m_drained (d := d + 35) hT ?_, mid0 hB⟩
  rw [show drainC (I 1 11) = alW (I 319) from drain_al (S := vw 1 I) hS.1]
  exact dir_v h
theorem o_open {N d : Nat} {xs : Nat → Int32} {K : Nat → Nat × Nat} {I : Mem} {L : Nat → Nat → Int64} {R : Nat → Nat → Option Nat} {n s : Nat} (h : Sim N xs K I L R n) : Ok (d + 40) 19 [.ref 0] (K, I, L, R, n, s) (DirC N xs (d + 40) 306 [.ref 318] n s) := by
  obtain ⟨hB, ⟨o, ro, H, hS⟩, hK, hTp, ⟨p, A, Ss, hP, hA, hPs⟩, h8, h13, h25⟩ := id h
  have hT := hB.1
  have h338 := hT.2.2
  have hw := hS.2.1.1
  have hH6 := hS.2.1.2.1
  refine c_tOpen (d := d + 37) hT ⟨_, rfl, m_open (d := d + 35) hT ?_, mid0 hB⟩
  rw [open_eq hS.1]
  exact dir_v h
theorem o_last {N d : Nat} {xs : Nat → Int32} {K : Nat → Nat × Nat} {I : Mem} {L : Nat → Nat → Int64} {R : Nat → Nat → Option Nat} {n s : Nat} {x : Int32} (h : Sim N xs K I L R n) : Ok (d + 40) 43 [.ref 0, .int x] (K, I, L, R, n, s) (DirC N xs (d + 40) 335 [.ref 318, .int x] n s) := by
  obtain ⟨hB, ⟨o, ro, H, hS⟩, hK, hTp, ⟨p, A, Ss, hP, hA, hPs⟩, h8, h13, h25⟩ := id h
  have hT := hB.1
  have h338 := hT.2.2
  have hw := hS.2.1.1
  have hH6 := hS.2.1.2.1
  refine c_last (d := d + 38) hT ⟨_, rfl, m_last (d := d + 36) hT ?_, mid0 hB⟩
  rw [nim_eq hS.1]
  exact dir_v h
theorem o_deepest {N d : Nat} {xs : Nat → Int32} {K : Nat → Nat × Nat} {I : Mem} {L : Nat → Nat → Int64} {R : Nat → Nat → Option Nat} {n s : Nat} (h : Sim N xs K I L R n) : Ok (d + 40) 50 [.ref 0] (K, I, L, R, n, s) (DirC N xs (d + 40) 351 [.ref 318] n s) := by
  obtain ⟨hB, ⟨o, ro, H, hS⟩, hK, hTp, ⟨p, A, Ss, hP, hA, hPs⟩, h8, h13, h25⟩ := id h
  have hT := hB.1
  have h338 := hT.2.2
  have hw := hS.2.1.1
  have hH6 := hS.2.1.2.1
  refine c_deepest (d := d + 38) hT ⟨_, rfl, m_deepest (d := d + 36) hT ?_, mid0 hB⟩
  rw [most_cg (E := fun c => I 319 (9 + 6 * c + 0)) 25 (fun c hc => sim_c1 hS.1 hc)]
  exact dir_v h
theorem o_wettest {N d : Nat} {xs : Nat → Int32} {K : Nat → Nat × Nat} {I : Mem} {L : Nat → Nat → Int64} {R : Nat → Nat → Option Nat} {n s : Nat} (h : Sim N xs K I L R n) : Ok (d + 40) 51 [.ref 0] (K, I, L, R, n, s) (DirC N xs (d + 40) 353 [.ref 318] n s) := by
  obtain ⟨hB, ⟨o, ro, H, hS⟩, hK, hTp, ⟨p, A, Ss, hP, hA, hPs⟩, h8, h13, h25⟩ := id h
  have hT := hB.1
  have h338 := hT.2.2
  have hw := hS.2.1.1
  have hH6 := hS.2.1.2.1
  refine c_wettest (d := d + 38) hT ⟨_, rfl, m_wettest (d := d + 36) hT ?_, mid0 hB⟩
  rw [most_cg (E := fun c => I 319 (9 + 6 * c + 1)) 25 (fun c hc => sim_c2 hS.1 hc)]
  exact dir_v h
theorem o_cold {N d : Nat} {xs : Nat → Int32} {K : Nat → Nat × Nat} {I : Mem} {L : Nat → Nat → Int64} {R : Nat → Nat → Option Nat} {n s : Nat} (h : Sim N xs K I L R n) : Ok (d + 40) 53 [.ref 0] (K, I, L, R, n, s) (DirC N xs (d + 40) 355 [.ref 318] n s) := by
  obtain ⟨hB, ⟨o, ro, H, hS⟩, hK, hTp, ⟨p, A, Ss, hP, hA, hPs⟩, h8, h13, h25⟩ := id h
  have hT := hB.1
  have h338 := hT.2.2
  have hw := hS.2.1.1
  have hH6 := hS.2.1.2.1
  refine c_cold (d := d + 38) hT (st_H hS) hH6 ⟨_, rfl, m_cold (d := d + 36) hT hw hH6 ?_, mid0 hB⟩
  rw [cold_eq hS.1]
  exact dir_v h
theorem o_fault {N d : Nat} {xs : Nat → Int32} {K : Nat → Nat × Nat} {I : Mem} {L : Nat → Nat → Int64} {R : Nat → Nat → Option Nat} {n s : Nat} (h : Sim N xs K I L R n) : Ok (d + 40) 14 [.ref 0] (K, I, L, R, n, s) (DirC N xs (d + 40) 218 [.ref 318] n s) := by
  obtain ⟨hB, ⟨o, ro, H, hS⟩, hK, hTp, ⟨p, A, Ss, hP, hA, hPs⟩, h8, h13, h25⟩ := id h
  have hT := hB.1
  have h338 := hT.2.2
  have hw := hS.2.1.1
  have hH6 := hS.2.1.2.1
  refine c_fault (d := d + 39) hT ⟨_, rfl, m_fault (d := d + 39) hT ?_, mid0 hB⟩
  rw [h8]
  exact dir_v h
theorem o_richest {N d : Nat} {xs : Nat → Int32} {K : Nat → Nat × Nat} {I : Mem} {L : Nat → Nat → Int64} {R : Nat → Nat → Option Nat} {n s : Nat} (h : Sim N xs K I L R n) : Ok (d + 40) 52 [.ref 0] (K, I, L, R, n, s) (DirC N xs (d + 40) 354 [.ref 318] n s) := by
  obtain ⟨hB, ⟨o, ro, H, hS⟩, hK, hTp, ⟨p, A, Ss, hP, hA, hPs⟩, h8, h13, h25⟩ := id h
  have hT := hB.1
  have h338 := hT.2.2
  have hw := hS.2.1.1
  have hH6 := hS.2.1.2.1
  refine c_richest (d := d + 38) hT (st_H hS) hH6 ⟨_, rfl, m_richest (d := d + 36) hT hw hH6 ?_, mid0 hB⟩
  rw [rich_eq (D := I 9) (r := cpy 6 (fun _ => nI 0) (up2 I 318 0 (nI 0) 334)) (fun i hi => cpy_lt (by omega)) (fun i hi => sim_h8 hS.1 (by omega)) hH6 H (Nat.le_refl _)]
  exact dir_mk (sim_up h (fun a ha => by rw [upr_ne (by omega), up2_row (by omega)]) (fun j hj => by rw [upr_ne (by omega), up2_same, if_neg (by omega)]) (fun _ _ => rfl)) (by omega) (by omega)
theorem o_hag {N d : Nat} {xs : Nat → Int32} {K : Nat → Nat × Nat} {I : Mem} {L : Nat → Nat → Int64} {R : Nat → Nat → Option Nat} {n s : Nat} {x : Int32} (h : Sim N xs K I L R n) (hn : n + 6 ≤ lmCells) (hs : s + 876 ≤ lmSlots) : Ok (d + 40) 182 [.ref 0, .int x, .ref 337] (K, I, L, R, n, s) (AftC N xs (d + 40) 341 [.ref 318, .int x] n s false) := by
  obtain ⟨hB, ⟨o, ro, H, hS⟩, hK, hTp, ⟨p, A, Ss, hP, hA, hPs⟩, h8, h13, h25⟩ := id h
  have hT := hB.1
  have h338 := hT.2.2
  have hw := hS.2.1.1
  have hH6 := hS.2.1.2.1
  have hTe := fun ci => tk_ex (ci := ci) hT hB.2.2.2.2.2
  have hwe : upr I n (fun _ => (0 : Int32)) 319 0 = nI H := by rw [upr_ne (by omega)]; exact hw
  refine w_hag (d := d + 38) (TK.k1 hT rfl) ?_
  refine c_hag (d := d + 36) hT (by omega) (by omega) (fun hx => ?_) (fun c hc hx => ?_)
  · exact wrq_e1 (mide hB) (m_hagE (d := d + 36) (hTe 16) hx (aft_e h hn (by decide)))
  · subst hx
    refine wrq_v hT (mid0 hB) (m_hag (d := d + 36) hT hc ?_)
    rw [hag_eq hc, peat_eq hS.1]
    exact aft_v h
theorem o_staged {N d : Nat} {xs : Nat → Int32} {K : Nat → Nat × Nat} {I : Mem} {L : Nat → Nat → Int64} {R : Nat → Nat → Option Nat} {n s : Nat} {x : Int32} (h : Sim N xs K I L R n) (hn : n + 6 ≤ lmCells) (hs : s + 876 ≤ lmSlots) : Ok (d + 40) 196 [.ref 0, .int x, .ref 337] (K, I, L, R, n, s) (AftC N xs (d + 40) 358 [.ref 318, .int x] n s false) := by
  obtain ⟨hB, ⟨o, ro, H, hS⟩, hK, hTp, ⟨p, A, Ss, hP, hA, hPs⟩, h8, h13, h25⟩ := id h
  have hT := hB.1
  have h338 := hT.2.2
  have hw := hS.2.1.1
  have hH6 := hS.2.1.2.1
  have hTe := fun ci => tk_ex (ci := ci) hT hB.2.2.2.2.2
  have hwe : upr I n (fun _ => (0 : Int32)) 319 0 = nI H := by rw [upr_ne (by omega)]; exact hw
  refine w_staged (d := d + 38) (TK.k1 hT rfl) ?_
  refine c_staged (d := d + 38) hT (by omega) (by omega) (fun hx => ?_) (fun hx => ?_)
  · exact wrq_e1 (mide hB) (m_stagedE (d := d + 37) (hTe 16) hx (aft_e h hn (by decide)))
  · obtain ⟨c, hc, rfl⟩ := hx
    refine wrq_v hT (mid0 hB) (m_staged (d := d + 37) hT hc ?_)
    rw [stag_eq hS.1]
    exact aft_v h
