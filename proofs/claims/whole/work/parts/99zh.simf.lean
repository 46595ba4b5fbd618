/-! THE RELATION of the whole: bounds of a world -/
def Bd (v : Int32) (k : Nat) : Prop := ∃ a, a ≤ k ∧ v = nI a
def WB (w : Nat → Int32) (H : Nat) : Prop := w 0 = nI H ∧ H ≤ 6 ∧ RnB w ∧ Bd (w 1) 12 ∧ Bd (w 4) 100 ∧ (∀ c, c < 25 → Bd (w (9 + 6 * c + 0)) 9 ∧ Bd (w (9 + 6 * c + 1)) 9 ∧ Bd (w (9 + 6 * c + 3)) 99) ∧ (∀ h, h < 6 → Bd (w (159 + 4 * h + 2)) 999 ∧ (H ≤ h → w (159 + 4 * h + 2) = nI 0 ∧ w (159 + 4 * h + 3) = nI 0)) ∧ (∀ h, h < H → ∃ a, 1 ≤ a ∧ a ≤ 9 ∧ w (159 + 4 * h + 0) = nI a)
theorem wb_ag {w w2 : Nat → Int32} {H : Nat} (e : ∀ j, j < 183 → j ≠ 7 → j ≠ 2 → w2 j = w j) (h : WB w H) : WB w2 H := by
  obtain ⟨h0, h6, h5, h1, h4, hc, hs, hh⟩ := h
  refine ⟨?_, h6, rnb_ag (e 5 (by decide) (by decide) (by decide)) h5, ?_, ?_, fun c q => ?_, fun k q => ?_, fun k q => ?_⟩
  · rw [e 0 (by decide) (by decide) (by decide)]; exact h0
  · rw [e 1 (by decide) (by decide) (by decide)]; exact h1
  · rw [e 4 (by decide) (by decide) (by decide)]; exact h4
  · rw [e (9 + 6 * c + 0) (by omega) (by omega) (by omega), e (9 + 6 * c + 1) (by omega) (by omega) (by omega), e (9 + 6 * c + 3) (by omega) (by omega) (by omega)]; exact hc c q
  · rw [e (159 + 4 * k + 2) (by omega) (by omega) (by omega), e (159 + 4 * k + 3) (by omega) (by omega) (by omega)]; exact hs k q
  · rw [e (159 + 4 * k + 0) (by omega) (by omega) (by omega)]; exact hh k q
theorem wb_up {w : Nat → Int32} {H k : Nat} {v : Int32} (h : WB w H) (k0 : k ≠ 0) (k1 : k ≠ 1) (k4 : k ≠ 4) (k5 : k = 5 → v = nI 0 ∨ v = nI 1) (kc : ∀ c, c < 25 → (k = 9 + 6 * c + 0 → Bd v 9) ∧ (k = 9 + 6 * c + 1 → Bd v 9) ∧ (k = 9 + 6 * c + 3 → Bd v 99)) (ks : ∀ c, c < 6 → k = 159 + 4 * c + 2 → c < H ∧ Bd v 999) (kh : ∀ c, c < 6 → k ≠ 159 + 4 * c + 0 ∧ k ≠ 159 + 4 * c + 3) : WB (up1 w k v) H := by
  obtain ⟨h0, h6, h5, h1, h4, hc, hs, hh⟩ := h
  have pt : ∀ j b, Bd (w j) b → (k = j → Bd v b) → Bd (up1 w k v j) b := fun j b q1 q2 => by
    by_cases e : j = k
    · subst e; rw [up1_hit]; exact q2 rfl
    · rw [up1_ne e]; exact q1
  refine ⟨?_, h6, ?_, ?_, ?_, fun c q => ⟨pt _ _ (hc c q).1 (kc c q).1, pt _ _ (hc c q).2.1 (kc c q).2.1, pt _ _ (hc c q).2.2 (kc c q).2.2⟩, fun c q => ⟨pt _ _ (hs c q).1 (fun e => (ks c q e).2), fun q2 => ?_⟩, fun c q => ?_⟩
  · rw [up1_ne (fun e => k0 e.symm)]; exact h0
  · by_cases e : 5 = k
    · unfold RnB; rw [← e, up1_hit]; exact k5 e.symm
    · exact rnb_ag (up1_ne e) h5
  · rw [up1_ne (fun e => k1 e.symm)]; exact h1
  · rw [up1_ne (fun e => k4 e.symm)]; exact h4
  · rw [up1_ne (fun e => by have := (ks c q e.symm).1; omega), up1_ne (fun e => (kh c q).2 e.symm)]; exact (hs c q).2 q2
  · rw [up1_ne (fun e => (kh c (by omega)).1 e.symm)]; exact hh c q
/-- a place that no bound speaks of -/
theorem wb_fr {w : Nat → Int32} {H k : Nat} {v : Int32} (h : WB w H) (hk : k = 3 ∨ k = 6 ∨ k = 7 ∨ k = 8 ∨ (9 ≤ k ∧ k < 159 ∧ ((k - 9) % 6 = 2 ∨ (k - 9) % 6 = 4 ∨ (k - 9) % 6 = 5)) ∨ (159 ≤ k ∧ (k - 159) % 4 = 1)) : WB (up1 w k v) H :=
  wb_up h (by omega) (by omega) (by omega) (by omega) (fun c hc => ⟨fun e => absurd e (by omega), fun e => absurd e (by omega), fun e => absurd e (by omega)⟩) (fun c hc e => absurd e (by omega)) (fun c hc => by omega)
theorem wb_rt {w : Nat → Int32} {H c : Nat} {v : Int32} (h : WB w H) (hc : c < H) : WB (up1 w (159 + 4 * c + 3) v) H := by
  obtain ⟨h0, h6, h5, h1, h4, hcl, hs, hh⟩ := h
  refine ⟨by rw [up1_ne (by omega)]; exact h0, h6, rnb_ag (up1_ne (by omega)) h5, by rw [up1_ne (by omega)]; exact h1, by rw [up1_ne (by omega)]; exact h4, fun k q => ?_, fun k q => ⟨by rw [up1_ne (by omega)]; exact (hs k q).1, fun q2 => ?_⟩, fun k q => by rw [up1_ne (by omega)]; exact hh k q⟩
  · rw [up1_ne (by omega), up1_ne (by omega), up1_ne (by omega)]; exact hcl k q
  · rw [up1_ne (by omega), up1_ne (by omega)]; exact (hs k q).2 q2
theorem wb_ok {w : Nat → Int32} {H : Nat} (h : WB w H) : WOk w H := ⟨h.2.2.2.2.2.2.2, fun c hc => (h.2.2.2.2.2.1 c hc).2.2⟩
theorem wb_dwk {w : Nat → Int32} {H : Nat} {o : RwT} (h : WB w H) (hr : RO w o) : DWk w o H := ⟨hr, h.1, h.2.1, wb_ok h⟩
theorem bd_cl {k : Nat} (hk : k < 2 ^ 31) (x : Int32) : Bd (jmax (nI 0) (jmin (nI k) x)) k := by
  unfold jmax jmin
  by_cases h : x < nI k
  · rw [if_pos h]
    by_cases g : nI 0 < x
    · rw [if_pos g]
      obtain ⟨a, ha, e⟩ := nI_of (show ¬ x < 0 from fun q => Int32.lt_irrefl (Int32.lt_trans g q))
      refine ⟨a, ?_, e⟩
      rw [e] at h
      exact Nat.le_of_lt (nI_lt_inv ha hk h)
    · rw [if_neg g]; exact ⟨0, Nat.zero_le _, rfl⟩
  · rw [if_neg h]
    by_cases g : nI 0 < nI k
    · rw [if_pos g]; exact ⟨k, Nat.le_refl _, rfl⟩
    · rw [if_neg g]; exact ⟨0, Nat.zero_le _, rfl⟩
theorem wb_soa {w : Nat → Int32} {H : Nat} (h : WB w H) : ∀ i, i ≤ 25 → WB (soaW w i) H
  | 0 => fun _ => h
  | i + 1 => fun hi => by
    show WB (soaS (alW w) (widC (alW w) (nI 33554431)) i (soaW w i)) H
    unfold soaS
    exact wb_up (wb_soa h i (by omega)) (by omega) (by omega) (by omega) (by omega) (fun c hc => ⟨fun e => absurd e (by omega), fun _ => bd_cl (by decide) _, fun e => absurd e (by omega)⟩) (fun c hc e => absurd e (by omega)) (fun c hc => by omega)
theorem wb_dry {w : Nat → Int32} {H : Nat} {o : RwT} (h : WB w H) : ∀ i, i ≤ 25 → WB (dryW w o i) H
  | 0 => fun _ => h
  | i + 1 => fun hi => by
    show WB (dryT w o i (dryW w o i)) H
    unfold dryT
    split
    · exact wb_fr (wb_dry h i (by omega)) (by omega)
    · exact wb_dry h i (by omega)
theorem wb_cut {w : Nat → Int32} {H h c : Nat} {k : Int32} (hw : WB w H) (hh : h < H) (hc : c < 25) (ho : openQ (Sv w) c) : WB (cutW w h c k) H := by
  have h6 := hw.2.1
  obtain ⟨a, a1, a2⟩ := (hw.2.2.2.2.2.1 c hc).1
  obtain ⟨t, t1, t2⟩ := (hw.2.2.2.2.2.1 c hc).2.2
  obtain ⟨m, m1, m2, m3⟩ := hw.2.2.2.2.2.2.2 h hh
  have o1 : nI 0 < nI a := by have := ho.1; rw [Sv_1 hc, a2] at this; exact this
  have o3 : nI t < nI 90 := by have := ho.2.2; rw [Sv_3 hc, t2] at this; exact this
  have a3 := nI_lt_inv (by omega) (by omega) o1
  have t3 := nI_lt_inv (by omega) (by omega) o3
  unfold cutW
  refine wb_ag (fun j h1 h2 _ => tolW_lo h1 h2) ?_
  refine wb_up ?_ (by omega) (by omega) (by omega) (by omega) (fun c2 hc2 => ⟨fun e => ?_, fun e => absurd e (by omega), fun e => absurd e (by omega)⟩) (fun c2 hc2 e => absurd e (by omega)) (fun c2 hc2 => by omega)
  · refine wb_up ?_ (by omega) (by omega) (by omega) (by omega) (fun c2 hc2 => ⟨fun e => absurd e (by omega), fun e => absurd e (by omega), fun e => ?_⟩) (fun c2 hc2 e => absurd e (by omega)) (fun c2 hc2 => by omega)
    · exact wb_fr (wb_fr hw (by omega)) (by omega)
    · rw [t2, m3, nI_add]; exact ⟨t + m, by omega, rfl⟩
  · rw [a2, nI_sub (by omega)]; exact ⟨a - 1, by omega, rfl⟩
theorem wb_dct {w : Nat → Int32} {H : Nat} (h : WB w H) : ∀ i, i ≤ H → WB (dctW w i).2 H
  | 0 => fun _ => h
  | i + 1 => fun hi => by
    have ih := wb_dct h i (by omega)
    show WB (dctS i (dctW w i)).2 H
    unfold dctS
    by_cases q : dayC (dctW w i).2 i = -1
    · rw [if_pos q]; exact ih
    · rw [if_neg q]
      obtain ⟨c, h1, h2, h3⟩ := dayC_c q
      rw [h3, tn_nI (by omega)]
      exact wb_cut ih (by omega) h1 h2
theorem wb_day {w : Nat → Int32} {H : Nat} {o : RwT} (h : WB w H) : WB (dayW w o H).2 H :=
  wb_fr (wb_dct (wb_dry (wb_soa h 25 (Nat.le_refl _)) 25 (Nat.le_refl _)) H (Nat.le_refl _)) (by omega)
theorem wb_sky {w : Nat → Int32} {H : Nat} (h : WB w H) : WB (skyW w) H := by
  unfold skyW
  refine wb_up (wb_fr (wb_fr (wb_fr h (by omega)) (by omega)) (by omega)) (by omega) (by omega) (by omega) (fun _ => ?_) (fun c hc => ⟨fun e => absurd e (by omega), fun e => absurd e (by omega), fun e => absurd e (by omega)⟩) (fun c hc e => absurd e (by omega)) (fun c hc => by omega)
  by_cases q : jrem (drvV (seedN (seedN (w 8)))) (nI 100) < w 4
  · rw [if_pos q]; exact Or.inr rfl
  · rw [if_neg q]; exact Or.inl rfl
theorem wb_gon {cal : Bool} {w : Nat → Int32} {H : Nat} {o : RwT} (h : WB w H) : ∀ i, WB (gonW cal w o H i).2 H
  | 0 => h
  | i + 1 => by
    have ih := wb_gon (cal := cal) (o := o) h i
    rw [gonW_s]
    unfold gonS
    cases cal
    · exact wb_day (wb_sky ih)
    · exact wb_day ih
/-- what the lines of a law add -/
def AmB (w : Nat → Int32) (ro : RwT) : Prop := match ro with
  | none => True
  | some (m, _, _) => ∀ l, l < m → Bd (w (484 + 4 * l + 1)) 20
theorem amb_ag {w w2 : Nat → Int32} {ro : RwT} (e : ∀ j, 483 ≤ j → w2 j = w j) (h : AmB w ro) : AmB w2 ro := by
  match ro, h with
  | none, _ => trivial
  | some (m, b0, b1), h => exact fun l hl => by rw [e _ (by omega)]; exact h l hl
/-- a state of the class, with its law, and a world -/
def StR (K : Nat → Nat × Nat) (R : Nat → Nat → Option Nat) (n : Nat) (I : Mem) (b : Nat) (o : LawT) (w : Nat → Int32) (ro : RwT) (H : Nat) : Prop := SimS (vw b I) w ∧ WB w H ∧ LO K R n I b o ∧ LOw o ∧ LawOO I b o w ro ∧ RO w ro ∧ AmB w ro
theorem st_day {K : Nat → Nat × Nat} {R : Nat → Nat → Option Nat} {n : Nat} {I : Mem} {b : Nat} {o : LawT} {w : Nat → Int32} {ro : RwT} {H : Nat} (h : StR K R n I b o w ro H) : DayR K R n I b o w ro H := by
  obtain ⟨h1, h2, h3, h4, h5, h6, -⟩ := h
  refine ⟨h1, h2.2.2.1, h5, ⟨h3, ?_, log_ok h1⟩, wb_dwk h2 h6⟩
  rw [(sim_r0 h1).1]; exact h2.1
theorem gon_h {cal : Bool} {w : Nat → Int32} {o : RwT} {H : Nat} (h : DWk w o H) (i : Nat) : ∀ j, 483 ≤ j → (gonW cal w o H i).2 j = w j := fun j hj => gon_hi h i j hj
theorem st_of {K : Nat → Nat × Nat} {R : Nat → Nat → Option Nat} {n : Nat} {I : Mem} {b : Nat} {o : LawT} {w : Nat → Int32} {ro : RwT} {H : Nat} (h : DayR K R n I b o w ro H) (hw : WB w H) (ho : LOw o) (ha : AmB w ro) : StR K R n I b o w ro H :=
  ⟨h.1, hw, h.2.2.2.1.1, ho, h.2.2.1, h.2.2.2.2.1, ha⟩
/-! a law stays where it is -/
theorem rdep_b {w w2 : Nat → Int32} {z : Nat} (h : ∀ t, t < z → w2 (532 + 2 * t) = w (532 + 2 * t)) {bg : Nat} : ∀ k, bg + k ≤ z → rdep w2 bg k = rdep w bg k
  | 0 => fun _ => rfl
  | k + 1 => fun hk => by unfold rdep; rw [h (bg + k) (by omega), rdep_b h k (by omega)]
theorem ro_b {w w2 : Nat → Int32} {o : RwT} (h2 : w2 2 = w 2) (h : ∀ j, 483 ≤ j → j < 1332 → w2 j = w j) (hr : RO w o) : RO w2 o := by
  match o, hr with
  | none, hr => show ¬ w2 2 = nI 1; rw [h2]; exact hr
  | some (m, b0, b1), hr =>
    obtain ⟨r1, r2, r3, r4⟩ := hr
    refine ⟨h2.trans r1, (h 483 (by omega) (by omega)).trans r2, r3, fun l hl => ?_⟩
    obtain ⟨s1, s2, s3, s4, s5⟩ := r4 l hl
    refine ⟨(h _ (by omega) (by omega)).trans s1, (h _ (by omega) (by omega)).trans s2, s3, s4, fun j hj => ?_⟩
    rw [h (532 + 2 * (b0 l + j)) (by omega) (by omega), rdep_b (z := 400) (fun t ht => h _ (by omega) (by omega)) j (by omega)]
    exact s5 j hj
theorem amb_b {w w2 : Nat → Int32} {o : RwT} (h : ∀ j, 483 ≤ j → j < 1332 → w2 j = w j) (hr : RO w o) (ha : AmB w o) : AmB w2 o := by
  match o, hr, ha with
  | none, _, _ => trivial
  | some (m, b0, b1), hr, ha =>
    have := hr.2.2.1
    exact fun l hl => by rw [h _ (by omega) (by omega)]; exact ha l hl
theorem lawOO_b {I : Mem} {b : Nat} {o : LawT} {w w2 : Nat → Int32} {ro : RwT} (h : ∀ j, 483 ≤ j → j < 1332 → w2 j = w j) (hr : RO w ro) (hL : LawOO I b o w ro) : LawOO I b o w2 ro := by
  match o, ro, hr, hL with
  | none, none, _, _ => trivial
  | some (la, m, z, bg), some (m2, b0, b1), hr, hL =>
    obtain ⟨h1, h2, h3, ⟨s0, s1, s2⟩, h5⟩ := hL
    have hm := hr.2.2.1
    refine ⟨h1, h2, h3, ⟨s0, fun l hl => ?_, fun t ht => ?_⟩, h5⟩
    · rw [h _ (by omega) (by omega), h _ (by omega) (by omega)]; exact s1 l hl
    · rw [h _ (by omega) (by omega), h _ (by omega) (by omega)]; exact s2 t ht
/-- another world that says the same -/
theorem st_w {K : Nat → Nat × Nat} {R : Nat → Nat → Option Nat} {n : Nat} {I : Mem} {b : Nat} {o : LawT} {w w2 : Nat → Int32} {ro : RwT} {H : Nat} (h : StR K R n I b o w ro H) (e : ∀ j, j < 1332 → w2 j = w j) : StR K R n I b o w2 ro H := by
  obtain ⟨h1, h2, h3, h4, h5, h6, h7⟩ := h
  have e2 : ∀ j, 483 ≤ j → j < 1332 → w2 j = w j := fun j _ q => e j q
  exact ⟨sim_w h1 (fun j hj _ => e j (by omega)), wb_ag (fun j q _ _ => e j (by omega)) h2, h3, h4, lawOO_b e2 h6 h5, ro_b (e 2 (by decide)) e2 h6, amb_b e2 h6 h7⟩
