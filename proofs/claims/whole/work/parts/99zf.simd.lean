/-! THE RELATION: a place is set in both -/
def adW (k j : Nat) : Nat := match k with
  | 0 => (match j with
    | 10 => 0
    | 12 => 3
    | 13 => 4
    | 14 => 5
    | 15 => 6
    | 16 => 8
    | _ => 1)
  | 1 => 9 + 6 * j + 0
  | 2 => 9 + 6 * j + 1
  | 3 => 9 + 6 * j + 3
  | 4 => 9 + 6 * j + 4
  | 5 => 9 + 6 * j + 5
  | 6 => 159 + 4 * j + 0
  | 7 => 159 + 4 * j + 1
  | 8 => 159 + 4 * j + 2
  | _ => 159 + 4 * j + 3
theorem in_cs {k j : Nat} (hk : k < 10) (h : inS k j = true) : (k = 0 ∧ 10 ≤ j ∧ j ≤ 17) ∨ (1 ≤ k ∧ k < 6 ∧ j < 25) ∨ (6 ≤ k ∧ k < 10 ∧ j < 6) := by
  by_cases h0 : k = 0
  · subst h0
    have := inS_0 h
    exact Or.inl ⟨rfl, by omega, by omega⟩
  · by_cases h6 : k < 6
    · refine Or.inr (Or.inl ⟨by omega, h6, ?_⟩)
      unfold inS at h
      rw [if_neg h0, if_pos h6] at h
      exact of_decide_eq_true h
    · refine Or.inr (Or.inr ⟨by omega, hk, ?_⟩)
      unfold inS at h
      rw [if_neg h0, if_neg h6, if_pos hk] at h
      exact of_decide_eq_true h
theorem adw_c {k j : Nat} (h1 : 1 ≤ k) (h6 : k < 6) : (k ≤ 2 ∧ adW k j = 9 + 6 * j + (k - 1)) ∨ (3 ≤ k ∧ adW k j = 9 + 6 * j + k) := by
  have hk : k = 1 ∨ k = 2 ∨ k = 3 ∨ k = 4 ∨ k = 5 := by omega
  rcases hk with rfl | rfl | rfl | rfl | rfl
  · exact Or.inl ⟨by decide, rfl⟩
  · exact Or.inl ⟨by decide, rfl⟩
  · exact Or.inr ⟨by decide, rfl⟩
  · exact Or.inr ⟨by decide, rfl⟩
  · exact Or.inr ⟨by decide, rfl⟩
theorem adw_h {k j : Nat} (h1 : 6 ≤ k) (h6 : k < 10) : adW k j = 159 + 4 * j + (k - 6) := by
  have hk : k = 6 ∨ k = 7 ∨ k = 8 ∨ k = 9 := by omega
  rcases hk with rfl | rfl | rfl | rfl <;> rfl
theorem adw_0 : ∀ j : Fin 18, adW 0 j.1 < 9 ∧ adW 0 j.1 ≠ 2 ∧ adW 0 j.1 ≠ 7 := by decide +kernel
theorem adw_00 : ∀ i : Fin 18, ∀ j : Fin 18, 10 ≤ i.1 → 10 ≤ j.1 → ¬ i.1 = 11 → ¬ j.1 = 11 → adW 0 i.1 = adW 0 j.1 → i = j := by decide +kernel
/-- where a place lies in a world -/
theorem adw_w {k j : Nat} (hk : k < 10) (hj : inS k j = true) : adW k j < 183 ∧ adW k j ≠ 2 ∧ adW k j ≠ 7 ∧ ∀ c, c < 25 → adW k j ≠ 9 + 6 * c + 2 := by
  rcases in_cs hk hj with ⟨rfl, h1, h2⟩ | ⟨h1, h2, h3⟩ | ⟨h1, h2, h3⟩
  · have := adw_0 ⟨j, by omega⟩
    dsimp only at this
    exact ⟨by omega, this.2.1, this.2.2, fun c hc => by omega⟩
  · rcases adw_c (j := j) h1 h2 with ⟨q, e⟩ | ⟨q, e⟩
    · exact ⟨by omega, by omega, by omega, fun c hc => by omega⟩
    · exact ⟨by omega, by omega, by omega, fun c hc => by omega⟩
  · have e := adw_h (j := j) h1 h2
    exact ⟨by omega, by omega, by omega, fun c hc => by omega⟩
theorem adw_inj {k j k2 j2 : Nat} (hk : k < 10) (hj : inS k j = true) (hn : ¬ (k = 0 ∧ j = 11)) (hk2 : k2 < 10) (hj2 : inS k2 j2 = true) (hn2 : ¬ (k2 = 0 ∧ j2 = 11)) (e : adW k j = adW k2 j2) : k = k2 ∧ j = j2 := by
  rcases in_cs hk hj with ⟨rfl, h1, h2⟩ | ⟨h1, h2, h3⟩ | ⟨h1, h2, h3⟩
  · have a := adw_0 ⟨j, by omega⟩
    dsimp only at a
    rcases in_cs hk2 hj2 with ⟨rfl, g1, g2⟩ | ⟨g1, g2, g3⟩ | ⟨g1, g2, g3⟩
    · have := adw_00 ⟨j, by omega⟩ ⟨j2, by omega⟩ h1 g1 (fun q => hn ⟨rfl, q⟩) (fun q => hn2 ⟨rfl, q⟩) e
      exact ⟨rfl, congrArg Fin.val this⟩
    · rcases adw_c (j := j2) g1 g2 with ⟨q, e2⟩ | ⟨q, e2⟩ <;> omega
    · have e2 := adw_h (j := j2) g1 g2; omega
  · rcases in_cs hk2 hj2 with ⟨rfl, g1, g2⟩ | ⟨g1, g2, g3⟩ | ⟨g1, g2, g3⟩
    · have a := adw_0 ⟨j2, by omega⟩
      dsimp only at a
      rcases adw_c (j := j) h1 h2 with ⟨q, e2⟩ | ⟨q, e2⟩ <;> omega
    · rcases adw_c (j := j) h1 h2 with ⟨q, e2⟩ | ⟨q, e2⟩ <;> rcases adw_c (j := j2) g1 g2 with ⟨q3, e3⟩ | ⟨q3, e3⟩ <;> exact ⟨by omega, by omega⟩
    · have e3 := adw_h (j := j2) g1 g2
      rcases adw_c (j := j) h1 h2 with ⟨q, e2⟩ | ⟨q, e2⟩ <;> omega
  · have e2 := adw_h (j := j) h1 h2
    rcases in_cs hk2 hj2 with ⟨rfl, g1, g2⟩ | ⟨g1, g2, g3⟩ | ⟨g1, g2, g3⟩
    · have a := adw_0 ⟨j2, by omega⟩
      dsimp only at a
      omega
    · rcases adw_c (j := j2) g1 g2 with ⟨q, e3⟩ | ⟨q, e3⟩ <;> omega
    · have e3 := adw_h (j := j2) g1 g2
      exact ⟨by omega, by omega⟩
theorem Sv_adw {w : Nat → Int32} {k j : Nat} (hk : k < 10) (hj : inS k j = true) (hn : ¬ (k = 0 ∧ j = 11)) : Sv w k j = w (adW k j) := by
  rcases in_cs hk hj with ⟨rfl, h1, h2⟩ | ⟨h1, h2, h3⟩ | ⟨h1, h2, h3⟩
  · rcases inS_0 hj with rfl | rfl | rfl | rfl | rfl | rfl | rfl | rfl
    · rfl
    · exact absurd ⟨rfl, rfl⟩ hn
    all_goals rfl
  · have hk2 : k = 1 ∨ k = 2 ∨ k = 3 ∨ k = 4 ∨ k = 5 := by omega
    rcases hk2 with rfl | rfl | rfl | rfl | rfl <;> exact if_pos h3
  · have hk2 : k = 6 ∨ k = 7 ∨ k = 8 ∨ k = 9 := by omega
    rcases hk2 with rfl | rfl | rfl | rfl <;> exact if_pos h3
theorem Sv_00 {w : Nat → Int32} : ∀ j, (j < 10 ∨ 17 < j) → Sv w 0 j = nI 0
  | 0 => fun h => rfl
  | 1 => fun h => rfl
  | 2 => fun h => rfl
  | 3 => fun h => rfl
  | 4 => fun h => rfl
  | 5 => fun h => rfl
  | 6 => fun h => rfl
  | 7 => fun h => rfl
  | 8 => fun h => rfl
  | 9 => fun h => rfl
  | 10 => fun h => absurd h (by omega)
  | 11 => fun h => absurd h (by omega)
  | 12 => fun h => absurd h (by omega)
  | 13 => fun h => absurd h (by omega)
  | 14 => fun h => absurd h (by omega)
  | 15 => fun h => absurd h (by omega)
  | 16 => fun h => absurd h (by omega)
  | 17 => fun h => absurd h (by omega)
  | j + 18 => fun _ => rfl
theorem Sv_out {w : Nat → Int32} {k j : Nat} (hk : k < 10) (hj : inS k j = false) : Sv w k j = nI 0 := by
  have hk2 : k = 0 ∨ k = 1 ∨ k = 2 ∨ k = 3 ∨ k = 4 ∨ k = 5 ∨ k = 6 ∨ k = 7 ∨ k = 8 ∨ k = 9 := by omega
  rcases hk2 with rfl | rfl | rfl | rfl | rfl | rfl | rfl | rfl | rfl | rfl
  · refine Sv_00 j ?_
    unfold inS at hj
    rw [if_pos rfl] at hj
    have := of_decide_eq_false hj
    omega
  all_goals exact if_neg (of_decide_eq_false hj)
/-- a row of a state is the world's -/
theorem sim_row {S : Mem} {w : Nat → Int32} (h : SimS S w) {k : Nat} (hk : k < 10) : S k = Sv w k := by
  funext j
  by_cases e : inS k j = true
  · exact h.1 k j hk e
  · have e2 : inS k j = false := by cases q : inS k j; rfl; exact absurd q e
    rw [Sv_out hk e2]; exact h.2.2.1 k j e2
/-- worlds that agree below the log -/
theorem sv_ag {w w2 : Nat → Int32} (h : ∀ j, j < 183 → j ≠ 7 → j ≠ 2 → w2 j = w j) {k j : Nat} (hk : k < 10) (hj : inS k j = true) : Sv w2 k j = Sv w k j := by
  by_cases e : k = 0 ∧ j = 11
  · obtain ⟨rfl, rfl⟩ := e
    exact dr_ext (fun c hc => h _ (by omega) (by omega) (by omega))
  · obtain ⟨a1, a2, a3, -⟩ := adw_w hk hj
    rw [Sv_adw hk hj e, Sv_adw hk hj e, h _ a1 a3 a2]
theorem drB_ag {w w2 : Nat → Int32} (h : ∀ j, j < 183 → j ≠ 7 → j ≠ 2 → w2 j = w j) (hd : DrB w) : DrB w2 := fun c hc => by
  rw [h _ (by omega) (by omega) (by omega)]; exact hd c hc
theorem sim_put {S : Mem} {w : Nat → Int32} {k j : Nat} {v : Int32} (h : SimS S w) (hk : k < 10) (hj : inS k j = true) (hn : ¬ (k = 0 ∧ j = 11)) : SimS (up2 S k j v) (up1 w (adW k j) v) := by
  obtain ⟨a1, a2, a3, a4⟩ := adw_w hk hj
  obtain ⟨h1, ⟨q, g, g1, g2, g3, g4, g5, g6⟩, h3, h4⟩ := h
  have hd : ∀ c, c < 25 → up1 w (adW k j) v (9 + 6 * c + 2) = w (9 + 6 * c + 2) := fun c hc => up1_ne (fun e => a4 c hc e.symm)
  refine ⟨fun k2 j2 hk2 hj2 => ?_, ⟨q, g, g1, g2, ?_, ?_, ?_, fun k e hk he => ?_⟩, fun k2 j2 hkj => ?_, fun c hc => ?_⟩
  · by_cases e2 : k2 = 0 ∧ j2 = 11
    · obtain ⟨rfl, rfl⟩ := e2
      rw [up2_off (fun e => hn ⟨e.1.symm, e.2.symm⟩), h1 0 11 hk2 hj2]
      exact (dr_ext hd).symm
    · rw [Sv_adw hk2 hj2 e2]
      by_cases e : k2 = k ∧ j2 = j
      · obtain ⟨rfl, rfl⟩ := e
        rw [up2_hit, up1_hit]
      · rw [up2_off e, up1_ne (fun q => e (adw_inj hk2 hj2 e2 hk hj hn q)), h1 k2 j2 hk2 hj2, Sv_adw hk2 hj2 e2]
  · rw [up2_row (by omega)]; exact g3
  · rw [up2_row (by omega)]; exact g4
  · rw [up1_ne (by omega)]; exact g5
  · rw [up1_ne (by omega), up2_row (by omega)]; exact g6 k e hk he
  · rw [up2_off (fun e => by rw [e.1, e.2, hj] at hkj; cases hkj)]; exact h3 k2 j2 hkj
  · rw [hd c hc]; exact h4 c hc
theorem sim_putv {I : Mem} {b : Nat} {w : Nat → Int32} {k j : Nat} {v u : Int32} (h : SimS (vw b I) w) (hk : k < 10) (hj : inS k j = true) (hn : ¬ (k = 0 ∧ j = 11)) (hv : v = u) : SimS (vw b (up2 I (b + k) j v)) (up1 w (adW k j) u) := by
  rw [vw_up2, hv]; exact sim_put h hk hj hn
theorem sim_vw {I J : Mem} {b : Nat} {w : Nat → Int32} (h : SimS (vw b I) w) (e : ∀ k, k < 12 → J (b + k) = I (b + k)) : SimS (vw b J) w := by
  obtain ⟨h1, ⟨q, g, g1, g2, g3, g4, g5, g6⟩, h3, h4⟩ := h
  have ev : ∀ k, k < 12 → vw b J k = vw b I k := fun k hk => e k hk
  refine ⟨fun k j hk hj => ?_, ⟨q, g, g1, g2, ?_, ?_, g5, fun k f hk hf => ?_⟩, Nrm_eq h3 e, h4⟩
  · rw [ev k (by omega)]; exact h1 k j hk hj
  · rw [ev 10 (by decide)]; exact g3
  · rw [ev 10 (by decide)]; exact g4
  · rw [ev 11 (by decide)]; exact g6 k f hk hf
/-- a world may differ where nothing of a state lies -/
theorem sim_w {S : Mem} {w w2 : Nat → Int32} (h : SimS S w) (e : ∀ j, j < 483 → j ≠ 2 → w2 j = w j) : SimS S w2 := by
  obtain ⟨h1, ⟨q, g, g1, g2, g3, g4, g5, g6⟩, h3, h4⟩ := h
  refine ⟨fun k j hk hj => ?_, ⟨q, g, g1, g2, g3, g4, ?_, fun k f hk hf => ?_⟩, h3, drB_ag (fun j h1 _ h2 => e j (by omega) h2) h4⟩
  · rw [sv_ag (fun j h1 _ h2 => e j (by omega) h2) hk hj]; exact h1 k j hk hj
  · rw [e 7 (by decide) (by decide)]; exact g5
  · rw [e _ (by omega) (by omega)]; exact g6 k f hk hf
theorem sim_wr {I : Mem} {b q : Nat} {w : Nat → Int32} {dy h c kd t : Int32} (hs : SimS (vw b I) w) (hq : I (b + 10) 1 = nI q) (hq6 : q < 60) (hdy : dy = w 6) : SimS (vw b (wrM I b q dy h c kd t)) (tolW w h c kd t) := by
  have e : ∀ j, j < 183 → j ≠ 7 → j ≠ 2 → tolW w h c kd t j = w j := fun j h1 h2 _ => tolW_lo h1 h2
  refine ⟨fun k j hk hj => ?_, log_s hs.2.1 hq hq6 hdy.symm shN_tl, Nrm_wr hs.2.2.1 hq6, drB_ag e hs.2.2.2⟩
  rw [sv_ag e hk hj]
  show wrM I b q dy h c kd t (b + k) j = _
  rw [wrM_o (by omega) (by omega)]
  exact hs.1 k j hk hj
theorem log_ok {I : Mem} {b : Nat} {w : Nat → Int32} (h : SimS (vw b I) w) : LogOk I b := by
  obtain ⟨q, g, g1, g2, g3, -⟩ := h.2.1
  exact ⟨q, g1, g3⟩
theorem sim_c1 {I : Mem} {b c : Nat} {w : Nat → Int32} (h : SimS (vw b I) w) (hc : c < 25) : I (b + 1) c = w (9 + 6 * c + 0) := (sim_k h (k := 1) (by decide) (by decide) hc).trans (Sv_1 hc)
theorem sim_c2 {I : Mem} {b c : Nat} {w : Nat → Int32} (h : SimS (vw b I) w) (hc : c < 25) : I (b + 2) c = w (9 + 6 * c + 1) := (sim_k h (k := 2) (by decide) (by decide) hc).trans (Sv_2 hc)
theorem sim_c3 {I : Mem} {b c : Nat} {w : Nat → Int32} (h : SimS (vw b I) w) (hc : c < 25) : I (b + 3) c = w (9 + 6 * c + 3) := (sim_k h (k := 3) (by decide) (by decide) hc).trans (Sv_3 hc)
theorem sim_c4 {I : Mem} {b c : Nat} {w : Nat → Int32} (h : SimS (vw b I) w) (hc : c < 25) : I (b + 4) c = w (9 + 6 * c + 4) := (sim_k h (k := 4) (by decide) (by decide) hc).trans (Sv_4 hc)
theorem sim_c5 {I : Mem} {b c : Nat} {w : Nat → Int32} (h : SimS (vw b I) w) (hc : c < 25) : I (b + 5) c = w (9 + 6 * c + 5) := (sim_k h (k := 5) (by decide) (by decide) hc).trans (Sv_5 hc)
theorem sim_h6 {I : Mem} {b c : Nat} {w : Nat → Int32} (h : SimS (vw b I) w) (hc : c < 6) : I (b + 6) c = w (159 + 4 * c + 0) := (sim_h h (k := 6) (by decide) (by decide) hc).trans (Sv_6 hc)
theorem sim_h7 {I : Mem} {b c : Nat} {w : Nat → Int32} (h : SimS (vw b I) w) (hc : c < 6) : I (b + 7) c = w (159 + 4 * c + 1) := (sim_h h (k := 7) (by decide) (by decide) hc).trans (Sv_7 hc)
theorem sim_h8 {I : Mem} {b c : Nat} {w : Nat → Int32} (h : SimS (vw b I) w) (hc : c < 6) : I (b + 8) c = w (159 + 4 * c + 2) := (sim_h h (k := 8) (by decide) (by decide) hc).trans (Sv_8 hc)
theorem sim_h9 {I : Mem} {b c : Nat} {w : Nat → Int32} (h : SimS (vw b I) w) (hc : c < 6) : I (b + 9) c = w (159 + 4 * c + 3) := (sim_h h (k := 9) (by decide) (by decide) hc).trans (Sv_9 hc)
theorem sim_r0 {I : Mem} {b : Nat} {w : Nat → Int32} (h : SimS (vw b I) w) : I b 10 = w 0 ∧ I b 11 = drW w 25 ∧ I b 12 = w 3 ∧ I b 13 = w 4 ∧ I b 14 = w 5 ∧ I b 15 = w 6 ∧ I b 16 = w 8 ∧ I b 17 = w 1 :=
  ⟨(sim_0 h).1, sim_bt h, (sim_0 h).2.1, (sim_0 h).2.2.1, (sim_0 h).2.2.2.1, (sim_0 h).2.2.2.2.1, (sim_0 h).2.2.2.2.2.1, (sim_0 h).2.2.2.2.2.2⟩
/-- a cut, in both -/
theorem sim_cut {I : Mem} {b h c q : Nat} {w : Nat → Int32} {kd : Int32} (hs : SimS (vw b I) w) (hh : h < 6) (hc : c < 25) (hq : I (b + 10) 1 = nI q) (hq6 : q < 60) (hp : nI 0 < w (9 + 6 * c + 3) + w (159 + 4 * h + 0)) : SimS (vw b (cutM I b h c kd q)) (cutW w h c kd) := by
  have e1 := sim_c1 hs hc
  have e3 := sim_c3 hs hc
  have e4 := sim_c4 hs hc
  have e6 := sim_h6 hs hh
  have e0 := (sim_r0 hs).2.2.2.2.2.1
  unfold cutM cutW
  rw [e1, e3, e4, e6, e0, if_pos hp]
  have i4 : ∀ k, 1 ≤ k → k < 6 → inS k c = true := fun k h1 h2 => inS_25 h1 h2 hc
  have s4 := sim_putv (v := w (9 + 6 * c + 4) * w (9 + 6 * c + 3) / (w (9 + 6 * c + 3) + w (159 + 4 * h + 0))) hs (k := 4) (by decide) (i4 4 (by decide) (by decide)) (by omega) rfl
  have s5 := sim_putv (v := nI 0) s4 (k := 5) (by decide) (i4 5 (by decide) (by decide)) (by omega) rfl
  have s3 := sim_putv (v := w (9 + 6 * c + 3) + w (159 + 4 * h + 0)) s5 (k := 3) (by decide) (i4 3 (by decide) (by decide)) (by omega) rfl
  have s1 := sim_putv (v := w (9 + 6 * c + 0) - nI 1) s3 (k := 1) (by decide) (i4 1 (by decide) (by decide)) (by omega) rfl
  refine sim_wr s1 ?_ hq6 ?_
  · rw [up2_o (by decide), up2_o (by decide), up2_o (by decide), up2_o (by decide)]; exact hq
  · show w 6 = up1 (up1 (up1 (up1 w (9 + 6 * c + 4) _) (9 + 6 * c + 5) _) (9 + 6 * c + 3) _) (9 + 6 * c + 0) _ 6
    rw [up1_ne (by omega), up1_ne (by omega), up1_ne (by omega), up1_ne (by omega)]
