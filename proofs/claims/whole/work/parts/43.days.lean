/-! DAYS: what stays so over days, which rows change -/
def DOk (K : Nat → Nat × Nat) (R : Nat → Nat → Option Nat) (n : Nat) (I : Mem) (b : Nat) (o : LawT) (H : Nat) : Prop := LO K R n I b o ∧ I b 10 = nI H ∧ LogOk I b
def offL (o : LawT) (a : Nat) : Prop := match o with
  | none => True
  | some q => a ≠ q.1 + 5
def LOw (o : LawT) : Prop := match o with
  | none => True
  | some q => 338 ≤ q.1
theorem cutM_out {I : Mem} {b h c q a : Nat} {kd : Int32} (ha : a < b ∨ b + 12 ≤ a) : cutM I b h c kd q a = I a := by
  unfold cutM wrM
  simp (disch := omega) only [up2_ne]
theorem cutM_0 {I : Mem} {b h c q : Nat} {kd : Int32} : cutM I b h c kd q b = I b := by
  unfold cutM wrM
  simp (disch := omega) only [up2_ne]
theorem LO_cut {K : Nat → Nat × Nat} {R : Nat → Nat → Option Nat} {n : Nat} {I : Mem} {b h c q : Nat} {kd : Int32} {o : LawT} (hl : LO K R n I b o) : LO K R n (cutM I b h c kd q) b o :=
  LO_eq hl (fun a ha => by
    by_cases h1 : a < b ∨ b + 12 ≤ a
    · exact cutM_out h1
    · omega) (fun a ha => by
    by_cases h1 : a + 3 < b ∨ b + 12 ≤ a + 3
    · exact cutM_out h1
    · omega)
theorem LO_dcut {K : Nat → Nat × Nat} {R : Nat → Nat → Option Nat} {n : Nat} {I : Mem} {b : Nat} {o : LawT} (hl : LO K R n I b o) : ∀ i, LO K R n (dcutF I b i).2 b o
  | 0 => hl
  | i + 1 => by
    have ih := LO_dcut hl i
    show LO K R n (dcutS b i (dcutF I b i)).2 b o
    unfold dcutS
    split
    · exact ih
    · exact LO_cut ih
theorem DOk_day {K : Nat → Nat × Nat} {R : Nat → Nat → Option Nat} {n : Nat} {I : Mem} {b H : Nat} {o : LawT} (h : DOk K R n I b o H) : DOk K R n (dayF I b o H).2 b o H := by
  obtain ⟨h1, h2, h3⟩ := h
  have hr : ∀ k, k < 12 → k ≠ 4 → k ≠ 2 → dayM1 I b o (b + k) = I (b + k) := fun k hk h4 h2 => (dryM_row (LO_soakM h1 25) hk h4 25).trans (soakM_row h2 25)
  refine ⟨LO_up2 (k := 0) (LO_dcut (LO_dryM (LO_soakM h1 25) 25) H) (by decide), ?_, ?_⟩
  · show up2 _ b 15 _ b 10 = _
    rw [up2_same, if_neg (by decide), show (dcutF (dayM1 I b o) b H).2 b = dayM1 I b o b from dcut_row (k := 0) (by decide) (by decide) (by decide) (by decide) (by decide) (by decide) H, show dayM1 I b o b = I b from hr 0 (by decide) (by decide) (by decide)]
    exact h2
  · have := LogOk_dcut (I := dayM1 I b o) (b := b) (by
      obtain ⟨q, q1, q2⟩ := h3
      exact ⟨q, q1, by rw [hr 10 (by decide) (by decide) (by decide)]; exact q2⟩) H
    obtain ⟨q, q1, q2⟩ := this
    refine ⟨q, q1, ?_⟩
    show up2 _ b 15 _ (b + 10) 1 = _
    rw [up2_row (by omega)]; exact q2
theorem DOk_up0 {K : Nat → Nat × Nat} {R : Nat → Nat → Option Nat} {n : Nat} {I : Mem} {b H j : Nat} {v : Int32} {o : LawT} (h : DOk K R n I b o H) (hj : j ≠ 10) : DOk K R n (up2 I b j v) b o H := by
  obtain ⟨h1, h2, q, q1, q2⟩ := h
  refine ⟨LO_up2 (k := 0) h1 (by decide), ?_, q, q1, ?_⟩
  · rw [up2_same, if_neg (by omega)]; exact h2
  · rw [up2_row (by omega)]; exact q2
theorem DOk_sky {K : Nat → Nat × Nat} {R : Nat → Nat → Option Nat} {n : Nat} {I : Mem} {b H : Nat} {o : LawT} (h : DOk K R n I b o H) : DOk K R n (skyM I b) b o H :=
  DOk_up0 (DOk_up0 (DOk_up0 (DOk_up0 h (by decide)) (by decide)) (by decide)) (by decide)
/-! rows beside the state and the law's stack stay -/
theorem totF_out {I : Mem} {b c a : Nat} {dr kd : Int32} {o : LawT} (ha : offL o a) : (totF I b c dr kd o).2 a = I a := by
  match o, ha with
  | none, _ => rfl
  | some (la, m, z, bg), ha => exact upr_ne ha
theorem gainF_out {I : Mem} {b c a : Nat} {dr : Int32} {o : LawT} (ha : offL o a) : (gainF I b c dr o).2 a = I a := by
  match o, ha with
  | none, _ => rfl
  | some q, ha =>
    show (totF (totF I b c dr (nI 0) (some q)).2 b c dr (nI 1) (some q)).2 a = _
    rw [totF_out ha, totF_out ha]
theorem sinkF_out {I : Mem} {b c a : Nat} {dr : Int32} {o : LawT} (ha : offL o a) : (sinkF I b c dr o).2 a = I a := by
  match o, ha with
  | none, _ => rfl
  | some q, ha => exact totF_out ha
theorem soakM_out {I : Mem} {b a : Nat} {dr le : Int32} (ha : a < b ∨ b + 12 ≤ a) : ∀ i, soakM I b dr le i a = I a
  | 0 => rfl
  | i + 1 => (up2_row (by omega)).trans (soakM_out ha i)
theorem dryM_out {I : Mem} {b a : Nat} {dr : Int32} {o : LawT} (ha : a < b ∨ b + 12 ≤ a) (hl : offL o a) : ∀ i, dryM I b dr o i a = I a
  | 0 => rfl
  | i + 1 => by
    have ih := dryM_out (I := I) (dr := dr) ha hl i
    show dryS b dr o i (dryM I b dr o i) a = _
    unfold dryS
    split
    · rw [up2_row (by omega), gainF_out hl]; exact ih
    · exact ih
theorem dcutF_out {I : Mem} {b a : Nat} (ha : a < b ∨ b + 12 ≤ a) : ∀ i, (dcutF I b i).2 a = I a
  | 0 => rfl
  | i + 1 => by
    have ih := dcutF_out (I := I) ha i
    show (dcutS b i (dcutF I b i)).2 a = _
    unfold dcutS
    split
    · exact ih
    · exact (cutM_out ha).trans ih
theorem dayF_out {I : Mem} {b a H : Nat} {o : LawT} (ha : a < b ∨ b + 12 ≤ a) (hl : offL o a) : (dayF I b o H).2 a = I a := by
  show up2 _ b 15 _ a = _
  rw [up2_row (by omega), dcutF_out ha]
  exact (dryM_out ha hl 25).trans (soakM_out ha 25)
theorem skyM_out {I : Mem} {b a : Nat} (ha : a ≠ b) : skyM I b a = I a := by
  unfold skyM; simp (disch := omega) only [up2_ne]
/-! places of a state's rows that are not used stay zero -/
theorem Nrm_up2 {I : Mem} {b k j : Nat} {v : Int32} (h : Nrm (vw b I)) (hj : inS k j = true) : Nrm (vw b (up2 I (b + k) j v)) := fun k2 j2 e => by
  show up2 I (b + k) j v (b + k2) j2 = _
  by_cases hk : k2 = k
  · subst hk
    rw [up2_same]
    by_cases hjj : j2 = j
    · subst hjj; rw [hj] at e; cases e
    · rw [if_neg hjj]; exact h _ _ e
  · rw [up2_row (by omega)]; exact h _ _ e
theorem inS_25 {k c : Nat} (h1 : 1 ≤ k) (h6 : k < 6) (hc : c < 25) : inS k c = true := by
  unfold inS; rw [if_neg (by omega), if_pos h6]; exact decide_eq_true hc
theorem inS_6 {k c : Nat} (h1 : 6 ≤ k) (h6 : k < 10) (hc : c < 6) : inS k c = true := by
  unfold inS; rw [if_neg (by omega), if_neg (by omega), if_pos h6]; exact decide_eq_true hc
theorem inS_300 {c : Nat} (hc : c < 300) : inS 11 c = true := by
  unfold inS; rw [if_neg (by omega), if_neg (by omega), if_neg (by omega), if_neg (by omega), if_pos rfl]; exact decide_eq_true hc
theorem Nrm_wr {I : Mem} {b q : Nat} {dy h c kd t : Int32} (hN : Nrm (vw b I)) (hq : q < 60) : Nrm (vw b (wrM I b q dy h c kd t)) :=
  Nrm_up2 (Nrm_up2 (Nrm_up2 (Nrm_up2 (Nrm_up2 (Nrm_up2 (Nrm_up2 hN (inS_300 (by omega))) (inS_300 (by omega))) (inS_300 (by omega))) (inS_300 (by omega))) (inS_300 (by omega))) rfl) rfl
theorem Nrm_cut {I : Mem} {b h c q : Nat} {kd : Int32} (hN : Nrm (vw b I)) (hc : c < 25) (hq : q < 60) : Nrm (vw b (cutM I b h c kd q)) :=
  Nrm_wr (Nrm_up2 (Nrm_up2 (Nrm_up2 (Nrm_up2 hN (inS_25 (by decide) (by decide) hc)) (inS_25 (by decide) (by decide) hc)) (inS_25 (by decide) (by decide) hc)) (inS_25 (by decide) (by decide) hc)) hq
theorem Nrm_eq {I J : Mem} {b : Nat} (hN : Nrm (vw b I)) (e : ∀ k, k < 12 → J (b + k) = I (b + k)) : Nrm (vw b J) := fun k j hj => by
  show J (b + k) j = _
  by_cases hk : k < 12
  · rw [e k hk]; exact hN k j hj
  · exfalso
    unfold inS at hj
    rw [if_neg (by omega), if_neg (by omega), if_neg (by omega), if_neg (by omega), if_neg (by omega)] at hj; cases hj
theorem Nrm_soakM {I : Mem} {b : Nat} {dr le : Int32} (hN : Nrm (vw b I)) : ∀ i, i ≤ 25 → Nrm (vw b (soakM I b dr le i))
  | 0, _ => hN
  | i + 1, h => Nrm_up2 (Nrm_soakM hN i (by omega)) (inS_25 (by decide) (by decide) (by omega))
theorem Nrm_dryM {K : Nat → Nat × Nat} {R : Nat → Nat → Option Nat} {n : Nat} {I : Mem} {b : Nat} {dr : Int32} {o : LawT} (hl : LO K R n I b o) (hN : Nrm (vw b I)) : ∀ i, i ≤ 25 → Nrm (vw b (dryM I b dr o i))
  | 0, _ => hN
  | i + 1, h => by
    have ih := Nrm_dryM (dr := dr) hl hN i (by omega)
    have hli := LO_dryM (dr := dr) hl i
    show Nrm (vw b (dryS b dr o i (dryM I b dr o i)))
    unfold dryS
    split
    · exact Nrm_up2 (Nrm_eq ih (fun k hk => gainF_row hli hk)) (inS_25 (by decide) (by decide) (by omega))
    · exact ih
theorem Nrm_dcut {I : Mem} {b : Nat} (hg : LogOk I b) (hN : Nrm (vw b I)) : ∀ i, Nrm (vw b (dcutF I b i).2)
  | 0 => hN
  | i + 1 => by
    have ih := Nrm_dcut hg hN i
    obtain ⟨q, q1, q2⟩ := LogOk_dcut hg i
    show Nrm (vw b (dcutS b i (dcutF I b i)).2)
    unfold dcutS
    split
    · exact ih
    · rename_i hne
      refine Nrm_cut ih ?_ (by rw [q2, tn_nI (by omega)]; exact q1)
      unfold dayCell at hne ⊢
      split at hne
      · rename_i hlt
        rw [if_pos hlt]
        obtain ⟨c, hc, -, e⟩ := fopS_cases hne
        rw [e, tn_nI (by omega)]; exact hc
      · exact absurd rfl hne
theorem Nrm_day {K : Nat → Nat × Nat} {R : Nat → Nat → Option Nat} {n : Nat} {I : Mem} {b H : Nat} {o : LawT} (h : DOk K R n I b o H) (hN : Nrm (vw b I)) : Nrm (vw b (dayF I b o H).2) := by
  obtain ⟨h1, h2, q, q1, q2⟩ := h
  refine Nrm_up2 (k := 0) (Nrm_dcut ⟨q, q1, ?_⟩ (Nrm_dryM (LO_soakM h1 25) (Nrm_soakM hN 25 (Nat.le_refl _)) 25 (Nat.le_refl _)) H) rfl
  rw [show dryM (soakM I b (drainC (I b 11)) (lettC (drainC (I b 11))) 25) b (drainC (I b 11)) o 25 (b + 10) = I (b + 10) from (dryM_row (LO_soakM h1 25) (by decide) (by decide) 25).trans (soakM_row (by decide) 25)]; exact q2
theorem Nrm_sky {I : Mem} {b : Nat} (hN : Nrm (vw b I)) : Nrm (vw b (skyM I b)) :=
  Nrm_up2 (k := 0) (Nrm_up2 (k := 0) (Nrm_up2 (k := 0) (Nrm_up2 (k := 0) hN rfl) rfl) rfl) rfl
/-! days one behind another -/
def ddayS (b : Nat) (o : LawT) (H : Nat) (p : Int32 × Mem) : Int32 × Mem := (p.1 + (dayF (skyM p.2 b) b o H).1, (dayF (skyM p.2 b) b o H).2)
def ddayF (I : Mem) (b : Nat) (o : LawT) (H i : Nat) : Int32 × Mem := forN (fun _ p => ddayS b o H p) (nI 0, I) i
def cdayM (I : Mem) (b : Nat) (o : LawT) (H i : Nat) : Mem := forN (fun _ J => (dayF J b o H).2) I i
def tdayM (I : Mem) (b : Nat) (o : LawT) (H i : Nat) : Mem := forN (fun _ J => (dayF (skyM J b) b o H).2) I i
theorem DOk_dday {K : Nat → Nat × Nat} {R : Nat → Nat → Option Nat} {n : Nat} {I : Mem} {b H : Nat} {o : LawT} (h : DOk K R n I b o H) : ∀ i, DOk K R n (ddayF I b o H i).2 b o H
  | 0 => h
  | i + 1 => DOk_day (DOk_sky (DOk_dday h i))
theorem DOk_cday {K : Nat → Nat × Nat} {R : Nat → Nat → Option Nat} {n : Nat} {I : Mem} {b H : Nat} {o : LawT} (h : DOk K R n I b o H) : ∀ i, DOk K R n (cdayM I b o H i) b o H
  | 0 => h
  | i + 1 => DOk_day (DOk_cday h i)
theorem DOk_tday {K : Nat → Nat × Nat} {R : Nat → Nat → Option Nat} {n : Nat} {I : Mem} {b H : Nat} {o : LawT} (h : DOk K R n I b o H) : ∀ i, DOk K R n (tdayM I b o H i) b o H
  | 0 => h
  | i + 1 => DOk_day (DOk_sky (DOk_tday h i))
theorem Nrm_dday {K : Nat → Nat × Nat} {R : Nat → Nat → Option Nat} {n : Nat} {I : Mem} {b H : Nat} {o : LawT} (h : DOk K R n I b o H) (hN : Nrm (vw b I)) : ∀ i, Nrm (vw b (ddayF I b o H i).2)
  | 0 => hN
  | i + 1 => Nrm_day (DOk_sky (DOk_dday h i)) (Nrm_sky (Nrm_dday h hN i))
theorem Nrm_cday {K : Nat → Nat × Nat} {R : Nat → Nat → Option Nat} {n : Nat} {I : Mem} {b H : Nat} {o : LawT} (h : DOk K R n I b o H) (hN : Nrm (vw b I)) : ∀ i, Nrm (vw b (cdayM I b o H i))
  | 0 => hN
  | i + 1 => Nrm_day (DOk_cday h i) (Nrm_cday h hN i)
theorem Nrm_tday {K : Nat → Nat × Nat} {R : Nat → Nat → Option Nat} {n : Nat} {I : Mem} {b H : Nat} {o : LawT} (h : DOk K R n I b o H) (hN : Nrm (vw b I)) : ∀ i, Nrm (vw b (tdayM I b o H i))
  | 0 => hN
  | i + 1 => Nrm_day (DOk_sky (DOk_tday h i)) (Nrm_sky (Nrm_tday h hN i))
theorem dday_out {I : Mem} {b a H : Nat} {o : LawT} (ha : a < b ∨ b + 12 ≤ a) (hl : offL o a) : ∀ i, (ddayF I b o H i).2 a = I a
  | 0 => rfl
  | i + 1 => (dayF_out ha hl).trans ((skyM_out (by omega)).trans (dday_out ha hl i))
theorem cday_out {I : Mem} {b a H : Nat} {o : LawT} (ha : a < b ∨ b + 12 ≤ a) (hl : offL o a) : ∀ i, cdayM I b o H i a = I a
  | 0 => rfl
  | i + 1 => (dayF_out ha hl).trans (cday_out ha hl i)
theorem tday_out {I : Mem} {b a H : Nat} {o : LawT} (ha : a < b ∨ b + 12 ≤ a) (hl : offL o a) : ∀ i, tdayM I b o H i a = I a
  | 0 => rfl
  | i + 1 => (dayF_out ha hl).trans ((skyM_out (by omega)).trans (tday_out ha hl i))
theorem inK12 {k j : Nat} (hk : 12 ≤ k) : inS k j = true := by
  unfold inS; rw [if_neg (by omega), if_neg (by omega), if_neg (by omega), if_neg (by omega), if_neg (by omega)]
theorem Nrm_cp {I : Mem} {b b2 : Nat} (hN : Nrm (vw b2 I)) : Nrm (vw b (cpS I b b2)) := fun k j hj => by
  show cpS I b b2 (b + k) j = _
  by_cases hk : k < 12
  · rw [cpS_in hk]; exact hN k j hj
  · rw [inK12 (by omega)] at hj; cases hj
theorem DOk_cp {K : Nat → Nat × Nat} {R : Nat → Nat → Option Nat} {n : Nat} {I : Mem} {b b2 H : Nat} {o : LawT} (h : DOk K R n I b2 o H) (hw : LOw o) (hb : b + 12 ≤ 338) (hb2 : b2 + 12 ≤ 338) : DOk K (up2 R b 18 (R b2 18)) n (cpS I b b2) b o H := by
  obtain ⟨h1, h2, q, q1, q2⟩ := h
  refine ⟨?_, by rw [show cpS I b b2 b = I b2 from cpS_in (k := 0) (by decide)]; exact h2, q, q1, by rw [cpS_in (by decide)]; exact q2⟩
  match o, h1, hw with
  | none, h1, _ => show up2 R b 18 (R b2 18) b 18 = none; rw [up2_hit]; exact h1
  | some (la, m, z, bg), ⟨e1, e2, e3, e4⟩, hw =>
    have hla : 338 ≤ la := hw
    obtain ⟨g0, g1, g2, g3, g4, g5, f1, f2, f3, f4, f5, g6, g7, g8⟩ := e2
    obtain ⟨n1, n2, n3, n4⟩ := e3
    refine ⟨by rw [up2_hit]; exact e1, ⟨g0, g1, g2, g3, g4, g5, ?_, ?_, ?_, ?_, ?_, g6, g7, g8⟩, ⟨?_, fun l hl => ?_, n3, n4⟩, Or.inr (by omega)⟩
    · rw [up2_row (by omega)]; exact f1
    · rw [up2_row (by omega)]; exact f2
    · rw [up2_row (by omega)]; exact f3
    · rw [up2_row (by omega)]; exact f4
    · rw [up2_row (by omega)]; exact f5
    · rw [cpS_out (by omega)]; exact n1
    · rw [cpS_out (by omega)]; exact n2 l hl

