/-! THE RELATION: a day -/
def RnB (w : Nat → Int32) : Prop := w 5 = nI 0 ∨ w 5 = nI 1
theorem draw_eq (x : Int32) : drawV x = drvV x := b_ext (fun i hi => by
  unfold drawV drvV
  rw [b_and, b_and, bt_jshr x (by decide) hi]
  have e : btI (jushr x (nI 16)) i = btI x (16 + i) := b_ushr 16 (by decide) x i
  rw [e]
  by_cases q : 16 + i < 32
  · rw [if_pos q]
  · have : ∀ i : Fin 32, ¬ 16 + i.1 < 32 → btI (nI 32767) i.1 = false := by decide +kernel
    rw [this ⟨i, hi⟩ q, Bool.and_false, Bool.and_false])
theorem jmin_cm (x y : Int32) : jmin x y = jmin y x := by
  unfold jmin
  by_cases h : y < x
  · rw [if_pos h, if_neg (fun q => Int32.lt_irrefl (Int32.lt_trans h q))]
  · rw [if_neg h]
    by_cases q : x < y
    · rw [if_pos q]
    · rw [if_neg q]
      exact Int32.le_antisymm (Int32.not_lt.mp h) (Int32.not_lt.mp q)
theorem low_drain (x : Int32) : low25 (drainC x) := by
  rw [drain_eq]; unfold pieC
  rw [pieN_it (low25_and (low25_s1 (by decide)))]
  exact low25_it (low25_and (low25_s1 (by decide))) 25
theorem let_eq {x : Int32} (hx : low25 x) : lettC x = widC x (nI 33554431) := by
  rw [wid_more hx]; unfold lettC moreC besideC
  rw [Int32.and_assoc, Int32.and_self]
theorem lawOO_ag {I : Mem} {b : Nat} {o : LawT} {w w2 : Nat → Int32} {ro : RwT} (e : ∀ j, 483 ≤ j → w2 j = w j) (h : LawOO I b o w ro) : LawOO I b o w2 ro := by
  match o, ro, h with
  | none, none, _ => trivial
  | some (la, m, z, bg), some (m2, b0, b1), h =>
    obtain ⟨h1, h2, h3, ⟨s0, s1, s2⟩, h5⟩ := h
    refine ⟨h1, h2, h3, ⟨s0, fun l hl => ?_, fun t ht => ?_⟩, h5⟩
    · rw [e _ (by omega), e _ (by omega)]; exact s1 l hl
    · rw [e _ (by omega), e _ (by omega)]; exact s2 t ht
theorem lawOO_out {I J : Mem} {b : Nat} {o : LawT} {w : Nat → Int32} {ro : RwT} (e : ∀ a, (a < b ∨ b + 12 ≤ a) → offL o a → J a = I a) (h : LawOO I b o w ro) : LawOO J b o w ro := by
  match o, ro, h with
  | none, none, _ => trivial
  | some (la, m, z, bg), some (m2, b0, b1), h =>
    obtain ⟨h1, h2, h3, ⟨s0, s1, s2⟩, h5⟩ := h
    refine ⟨h1, h2, h3, ⟨s0, fun l hl => ?_, fun t ht => ?_⟩, h5⟩
    · rw [e (la + 1) (by omega) (show la + 1 ≠ la + 5 by omega), e (la + 2) (by omega) (show la + 2 ≠ la + 5 by omega), e (la + 4) (by omega) (show la + 4 ≠ la + 5 by omega)]; exact s1 l hl
    · rw [e (la + 4) (by omega) (show la + 4 ≠ la + 5 by omega)]; exact s2 t ht
theorem sim_soak {I : Mem} {b : Nat} {w : Nat → Int32} (h : SimS (vw b I) w) (h5 : RnB w) : ∀ i, i ≤ 25 → SimS (vw b (soakM I b (drainC (I b 11)) (lettC (drainC (I b 11))) i)) (soaW w i)
  | 0 => fun _ => h
  | i + 1 => fun hi => by
    have ih := sim_soak h h5 i (by omega)
    have hd := drain_al h
    rw [show vw b I 0 11 = I b 11 from rfl] at hd
    rw [let_eq (low_drain _), hd] at ih ⊢
    show SimS (vw b (soakS b (alW w) (widC (alW w) (nI 33554431)) i (soakM I b (alW w) (widC (alW w) (nI 33554431)) i))) (soaS (alW w) (widC (alW w) (nI 33554431)) i (soaW w i))
    unfold soakS soaS
    refine sim_putv (k := 2) ih (by decide) (inS_25 (by decide) (by decide) (by omega)) (by omega) ?_
    rw [sim_c2 ih (by omega), (sim_r0 ih).2.2.2.2.1, soaW_ne (j := 5) (by omega) i]
    rcases h5 with q | q
    · rw [q, if_pos rfl]
    · rw [q, if_neg (by decide)]
theorem sim_dry {K : Nat → Nat × Nat} {R : Nat → Nat → Option Nat} {n : Nat} {I : Mem} {b : Nat} {w : Nat → Int32} {o : LawT} {ro : RwT} (hlo : LO K R n I b o) (h : SimS (vw b I) w) (h5 : RnB w) (hL : LawOO I b o w ro) : ∀ i, i ≤ 25 → SimS (vw b (dryM I b (drainC (I b 11)) o i)) (dryW w ro i)
  | 0 => fun _ => h
  | i + 1 => fun hi => by
    have ih := sim_dry hlo h h5 hL i (by omega)
    have hl2 := LO_dryM (dr := drainC (I b 11)) hlo i
    have hL2 : LawOO (dryM I b (drainC (I b 11)) o i) b o w ro := lawOO_out (fun a h1 h2 => dryM_out h1 h2 i) hL
    have hr : ∀ k, k < 12 → k ≠ 4 → dryM I b (drainC (I b 11)) o i (b + k) = I (b + k) := fun k h1 h4 => dryM_row hlo h1 h4 i
    have ha := ask_sim h (c := i) (by omega) h5
    obtain ⟨⟨a1, a2, a3, a4, a5, a6, a7⟩, a8⟩ := ha
    have hA : AskS (dryM I b (drainC (I b 11)) o i) b i (drainC (I b 11)) w := by
      have r0 := hr 0 (by decide) (by decide)
      rw [Nat.add_zero] at r0
      refine ⟨?_, ?_, ?_, ?_, ?_, a6, a7⟩
      · rw [hr 1 (by decide) (by decide)]; exact a1
      · rw [hr 2 (by decide) (by decide)]; exact a2
      · rw [hr 3 (by decide) (by decide)]; exact a3
      · rw [r0]; exact a4
      · rw [r0]; exact a5
    have hg := gain_eq hL2 hA (by rw [hr 5 (by decide) (by decide)]; exact a8) (by omega : i < 25)
    show SimS (vw b (dryS b (drainC (I b 11)) o i (dryM I b (drainC (I b 11)) o i))) (dryT w ro i (dryW w ro i))
    unfold dryS dryT
    rw [← sim_c3 ih (by omega : i < 25)]
    by_cases p : nI 0 < dryM I b (drainC (I b 11)) o i (b + 3) i
    · rw [if_pos p, if_pos p]
      refine sim_putv (k := 4) (sim_vw ih (fun k hk => gainF_row hl2 hk)) (by decide) (inS_25 (by decide) (by decide) (by omega)) (by omega) ?_
      rw [hg, sim_c4 ih (by omega)]
    · rw [if_neg p, if_neg p]; exact ih
theorem ffrom_cg {p q : Nat → Prop} [∀ c, Decidable (p c)] [∀ c, Decidable (q c)] (h : ∀ c, p c ↔ q c) : ∀ r i, ffrom p r i = ffrom q r i
  | 0, _ => rfl
  | r + 1, i => by
    unfold ffrom
    by_cases e : p i
    · rw [if_pos e, if_pos ((h i).mp e)]
    · rw [if_neg e, if_neg (fun z => e ((h i).mpr z)), ffrom_cg h r (i + 1)]
theorem fop_eq {S : Mem} {w : Nat → Int32} (h : SimS S w) {k : Nat} : fopS S k = fopS (Sv w) k := by
  have r1 := sim_row h (k := 1) (by decide)
  have r2 := sim_row h (k := 2) (by decide)
  have r3 := sim_row h (k := 3) (by decide)
  have r9 := sim_row h (k := 9) (by decide)
  unfold fopS
  refine ffrom_cg (fun c => ?_) 25 0
  show (hasP (S 9 k) c ∧ openQ S c) ↔ (hasP (Sv w 9 k) c ∧ openQ (Sv w) c)
  rw [openQ, openQ, r1, r2, r3, r9]
theorem dcel_eq {I : Mem} {b : Nat} {w : Nat → Int32} (h : SimS (vw b I) w) {k : Nat} (hk : k < 6) : dayCell I b k = dayC w k := by
  unfold dayCell dayC
  rw [sim_h8 h hk, sim_h7 h hk, fop_eq h]
theorem wok_pos {w : Nat → Int32} {H h c : Nat} (hw : WOk w H) (hh : h < H) (hc : c < 25) : nI 0 < w (9 + 6 * c + 3) + w (159 + 4 * h + 0) := by
  obtain ⟨a, h1, h2, h3⟩ := hw.1 h hh
  obtain ⟨a2, h4, h5⟩ := hw.2 c hc
  rw [h3, h5, nI_add]
  exact nI_lt (by omega) (by omega)
theorem sim_dct {I : Mem} {b : Nat} {w : Nat → Int32} {H : Nat} (hH : H ≤ 6) (hw : WOk w H) (h : SimS (vw b I) w) : ∀ i, i ≤ H → SimS (vw b (dcutF I b i).2) (dctW w i).2 ∧ (dcutF I b i).1 = (dctW w i).1
  | 0 => fun _ => ⟨h, rfl⟩
  | i + 1 => fun hi => by
    obtain ⟨i1, i2⟩ := sim_dct hH hw h i (by omega)
    have hok := (dct_ok hH hw i (by omega)).1
    show SimS (vw b (dcutS b i (dcutF I b i)).2) (dctS i (dctW w i)).2 ∧ (dcutS b i (dcutF I b i)).1 = (dctS i (dctW w i)).1
    unfold dcutS dctS
    rw [dcel_eq i1 (by omega)]
    by_cases q : dayC (dctW w i).2 i = -1
    · rw [if_pos q, if_pos q]; exact ⟨i1, i2⟩
    · rw [if_neg q, if_neg q]
      obtain ⟨c, h1, h2, h3⟩ := dayC_c q
      rw [h3, tn_nI (by omega)]
      obtain ⟨r, r1, r2⟩ := log_ok i1
      refine ⟨?_, by rw [i2]⟩
      show SimS (vw b (cutM (dcutF I b i).2 b i c (nI 0) (tn ((dcutF I b i).2 (b + 10) 1)))) (cutW (dctW w i).2 i c (nI 0))
      rw [r2, tn_q r1]
      exact sim_cut i1 (by omega) h1 r2 r1 (wok_pos hok (by omega) h1)
theorem rnb_ag {w w2 : Nat → Int32} (e : w2 5 = w 5) (h : RnB w) : RnB w2 := by unfold RnB; rw [e]; exact h
theorem dct_5 {w : Nat → Int32} : ∀ i, (dctW w i).2 5 = w 5
  | 0 => rfl
  | i + 1 => by
    show (dctS i (dctW w i)).2 5 = _
    unfold dctS
    split
    · exact dct_5 i
    · show cutW (dctW w i).2 i (tn (dayC (dctW w i).2 i)) (nI 0) 5 = _
      unfold cutW
      rw [tolW_lo (by omega) (by omega), up1_ne (by omega), up1_ne (by omega), up1_ne (by omega), up1_ne (by omega)]; exact dct_5 i
theorem dayW_ne {w : Nat → Int32} {o : RwT} {H j : Nat} (h : j ≠ 6) : (dayW w o H).2 j = (dctW (dryW (soaW w 25) o 25) H).2 j := up1_ne h
/-- what a day needs of both, and keeps -/
def DayR (K : Nat → Nat × Nat) (R : Nat → Nat → Option Nat) (n : Nat) (I : Mem) (b : Nat) (o : LawT) (w : Nat → Int32) (ro : RwT) (H : Nat) : Prop := SimS (vw b I) w ∧ RnB w ∧ LawOO I b o w ro ∧ DOk K R n I b o H ∧ DWk w ro H
theorem day_hi {w : Nat → Int32} {o : RwT} {H : Nat} (h : DWk w o H) : ∀ j, 483 ≤ j → (dayW w o H).2 j = w j := fun j hj => by
  have q := DWk_sd h
  have d := dct_ok q.2.2.1 q.2.2.2 H (Nat.le_refl _)
  rw [dayW_ne (by omega), d.2.2.2 j hj]
  exact (dryW_neC (by omega)).trans (soaW_neC (by omega))
theorem sim_day {K : Nat → Nat × Nat} {R : Nat → Nat → Option Nat} {n : Nat} {I : Mem} {b : Nat} {o : LawT} {w : Nat → Int32} {ro : RwT} {H : Nat} (h : DayR K R n I b o w ro H) : DayR K R n (dayF I b o H).2 b o (dayW w ro H).2 ro H ∧ (dayF I b o H).1 = (dayW w ro H).1 := by
  obtain ⟨h1, h5, hL, hD, hW⟩ := h
  have hs := sim_soak h1 h5 25 (Nat.le_refl _)
  have hlo := LO_soakM (dr := drainC (I b 11)) (le := lettC (drainC (I b 11))) hD.1 25
  have hb : soakM I b (drainC (I b 11)) (lettC (drainC (I b 11))) 25 b = I b := soakM_row (k := 0) (by decide) 25
  have hL2 : LawOO (soakM I b (drainC (I b 11)) (lettC (drainC (I b 11))) 25) b o (soaW w 25) ro := lawOO_ag (fun j hj => soaW_neC (by omega)) (lawOO_out (fun a q1 q2 => soakM_out q1 25) hL)
  have hy := sim_dry hlo hs (rnb_ag (soaW_ne (by omega) 25) h5) hL2 25 (Nat.le_refl _)
  rw [hb] at hy
  have hq := DWk_sd hW
  obtain ⟨c1, c2⟩ := sim_dct hq.2.2.1 hq.2.2.2 (I := dayM1 I b o) hy H (Nat.le_refl _)
  refine ⟨⟨?_, ?_, ?_, DOk_day hD, DWk_day hW⟩, c2⟩
  · refine sim_putv (k := 0) (j := 15) c1 (by decide) rfl (by omega) ?_
    rw [jmin_cm, (sim_r0 c1).2.2.2.2.2.1]
  · refine rnb_ag (w := w) ?_ h5
    rw [dayW_ne (by decide), dct_5]
    exact (dryW_ne (by omega) 25).trans (soaW_ne (by omega) 25)
  · exact lawOO_ag (day_hi hW) (lawOO_out (fun a q1 q2 => dayF_out q1 q2) hL)
theorem sim_sky {I : Mem} {b : Nat} {w : Nat → Int32} (h : SimS (vw b I) w) : SimS (vw b (skyM I b)) (skyW w) ∧ RnB (skyW w) := by
  obtain ⟨-, -, -, s13, -, -, s16, -⟩ := sim_r0 h
  constructor
  · unfold skyM skyW
    rw [s16, s13, draw_eq, draw_eq]
    refine sim_putv (k := 0) (j := 14) (sim_putv (k := 0) (j := 16) (sim_putv (k := 0) (j := 12) (sim_putv (k := 0) (j := 16) h (by decide) rfl (by omega) rfl) (by decide) rfl (by omega) rfl) (by decide) rfl (by omega) rfl) (by decide) rfl (by omega) rfl
  · show skyW w 5 = _ ∨ skyW w 5 = _
    unfold skyW
    rw [up1_hit]
    by_cases q : jrem (drvV (seedN (seedN (w 8)))) (nI 100) < w 4
    · rw [if_pos q]; exact Or.inr rfl
    · rw [if_neg q]; exact Or.inl rfl
theorem sky_hi {w : Nat → Int32} : ∀ j, 483 ≤ j → skyW w j = w j := fun j hj => by
  unfold skyW; rw [up1_ne (by omega), up1_ne (by omega), up1_ne (by omega), up1_ne (by omega)]
theorem dayR_sky {K : Nat → Nat × Nat} {R : Nat → Nat → Option Nat} {n : Nat} {I : Mem} {b : Nat} {o : LawT} {w : Nat → Int32} {ro : RwT} {H : Nat} (h : DayR K R n I b o w ro H) : DayR K R n (skyM I b) b o (skyW w) ro H := by
  obtain ⟨h1, h5, hL, hD, hW⟩ := h
  exact ⟨(sim_sky h1).1, (sim_sky h1).2, lawOO_ag sky_hi (lawOO_out (fun a q1 q2 => skyM_out (by omega)) hL), DOk_sky hD, DWk_sky hW⟩
theorem sim_dday {K : Nat → Nat × Nat} {R : Nat → Nat → Option Nat} {n : Nat} {I : Mem} {b : Nat} {o : LawT} {w : Nat → Int32} {ro : RwT} {H : Nat} (h : DayR K R n I b o w ro H) : ∀ i, DayR K R n (ddayF I b o H i).2 b o (gonW false w ro H i).2 ro H ∧ (ddayF I b o H i).1 = (gonW false w ro H i).1
  | 0 => ⟨h, rfl⟩
  | i + 1 => by
    obtain ⟨i1, i2⟩ := sim_dday h i
    obtain ⟨d1, d2⟩ := sim_day (dayR_sky i1)
    refine ⟨d1, ?_⟩
    show (ddayF I b o H i).1 + (dayF (skyM (ddayF I b o H i).2 b) b o H).1 = (gonW false w ro H i).1 + (dayW (skyW (gonW false w ro H i).2) ro H).1
    rw [i2, d2]
theorem sim_cday {K : Nat → Nat × Nat} {R : Nat → Nat → Option Nat} {n : Nat} {I : Mem} {b : Nat} {o : LawT} {w : Nat → Int32} {ro : RwT} {H : Nat} (h : DayR K R n I b o w ro H) : ∀ i, DayR K R n (cdayM I b o H i) b o (gonW true w ro H i).2 ro H
  | 0 => h
  | i + 1 => (sim_day (sim_cday h i)).1
theorem sim_tday {K : Nat → Nat × Nat} {R : Nat → Nat → Option Nat} {n : Nat} {I : Mem} {b : Nat} {o : LawT} {w : Nat → Int32} {ro : RwT} {H : Nat} (h : DayR K R n I b o w ro H) : ∀ i, DayR K R n (tdayM I b o H i) b o (gonW false w ro H i).2 ro H
  | 0 => h
  | i + 1 => (sim_day (dayR_sky (sim_tday h i))).1
