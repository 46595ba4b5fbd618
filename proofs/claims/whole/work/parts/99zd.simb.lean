/-! THE RELATION: what is drained; a law asks the same of both -/
theorem shN_tl {w : Nat → Int32} : ∀ j, 188 ≤ j → j < 483 → shN 295 w j = w (j - 5) := fun j h1 h2 => by
  unfold shN; rw [if_pos ⟨by omega, h2⟩]
theorem and_cm (x y : Int32) : x &&& y = y &&& x := Int32.and_comm x y
theorem drain_eq (x : Int32) : drainC x = pieC 24 x := by
  unfold drainC pieC
  rw [pieN_it (low25_and (low25_s1 (by decide))), spread_it, and_cm x, show nI 16777216 = jshl (nI 1) (nI 24) by decide]
theorem drain_al {S : Mem} {w : Nat → Int32} (h : SimS S w) : drainC (S 0 11) = alW w := by
  rw [sim_bt h, drain_eq]; rfl
/-- a state that says what a world says, asked by a law -/
theorem ask_sim {I : Mem} {b c : Nat} {w : Nat → Int32} (h : SimS (vw b I) w) (hc : c < 25) (h5 : w 5 = nI 0 ∨ w 5 = nI 1) : AskS I b c (drainC (I b 11)) w ∧ I (b + 5) c = w (9 + 6 * c + 5) := by
  have s0 := sim_0 h
  have e11 : vw b I 0 11 = I b 11 := rfl
  have hd := drain_al h
  rw [e11] at hd
  refine ⟨⟨?_, ?_, ?_, s0.2.1, s0.2.2.2.1, h5, by rw [hd]⟩, ?_⟩
  · exact (sim_k h (k := 1) (by decide) (by decide) hc).trans (Sv_1 hc)
  · exact (sim_k h (k := 2) (by decide) (by decide) hc).trans (Sv_2 hc)
  · exact (sim_k h (k := 3) (by decide) (by decide) hc).trans (Sv_3 hc)
  · exact (sim_k h (k := 5) (by decide) (by decide) hc).trans (Sv_5 hc)
