/-! THE RELATION: a row more in the log -/
theorem jmin_g {g : Nat} (hg : g ≤ 60) : jmin (nI g + nI 1) (nI 60) = nI (min (g + 1) 60) ∧ jmin (nI 60) (nI g + nI 1) = nI (min (g + 1) 60) := by
  have : ∀ g : Fin 61, jmin (nI g.1 + nI 1) (nI 60) = nI (min (g.1 + 1) 60) ∧ jmin (nI 60) (nI g.1 + nI 1) = nI (min (g.1 + 1) 60) := by decide +kernel
  exact this ⟨g, by omega⟩
theorem wr_11 {I : Mem} {b q j : Nat} {dy h c kd t : Int32} : wrM I b q dy h c kd t (b + 11) j = if j = q * 5 + 4 then t else if j = q * 5 + 3 then kd else if j = q * 5 + 2 then c else if j = q * 5 + 1 then h else if j = q * 5 then dy else I (b + 11) j := by
  unfold wrM
  rw [up2_row (by omega), up2_row (by omega), up2_same, up2_same, up2_same, up2_same, up2_same]
theorem wr_10 {I : Mem} {b q : Nat} {dy h c kd t : Int32} : wrM I b q dy h c kd t (b + 10) 1 = nI ((q + 1) % 60) ∧ wrM I b q dy h c kd t (b + 10) 2 = jmin (I (b + 10) 2 + nI 1) (nI 60) := by
  unfold wrM
  exact ⟨by rw [up2_same, if_neg (by decide), up2_hit], up2_hit⟩
theorem log_s {I : Mem} {b q : Nat} {w : Nat → Int32} {dy h c kd t : Int32} (hL : LogR (vw b I) w) (hq : I (b + 10) 1 = nI q) (hq6 : q < 60) (hdy : w 6 = dy) (hsh : ∀ j, 188 ≤ j → j < 483 → shN 295 w j = w (j - 5)) : LogR (vw b (wrM I b q dy h c kd t)) (tolW w h c kd t) := by
  obtain ⟨q2, g, h1, h2, h3, h4, h5, h6⟩ := hL
  obtain rfl : q = q2 := eq_nI (hq.symm.trans h3) (by omega) (by omega)
  obtain ⟨m1, m2⟩ := jmin_g h2
  refine ⟨(q + 1) % 60, min (g + 1) 60, by omega, by omega, wr_10.1, ?_, ?_, fun k e hk he => ?_⟩
  · show wrM I b q dy h c kd t (b + 10) 2 = _
    rw [wr_10.2, show I (b + 10) 2 = nI g from h4, m1]
  · unfold tolW
    rw [up1_hit, h5, m2]
  · show tolW w h c kd t (183 + 5 * k + e) = wrM I b q dy h c kd t (b + 11) (((q + 1) % 60 + 60 - 1 - k) % 60 * 5 + e)
    rw [wr_11]
    unfold tolW
    rw [up1_ne (by omega)]
    by_cases k0 : k = 0
    · subst k0
      rw [show ((q + 1) % 60 + 60 - 1 - 0) % 60 = q by omega]
      have he2 : e = 0 ∨ e = 1 ∨ e = 2 ∨ e = 3 ∨ e = 4 := by omega
      rcases he2 with rfl | rfl | rfl | rfl | rfl
      · rw [up1_ne (by omega), up1_ne (by omega), up1_ne (by omega), up1_ne (by omega), up1_hit, if_neg (by omega), if_neg (by omega), if_neg (by omega), if_neg (by omega), if_pos (by omega), hdy]
      · rw [up1_ne (by omega), up1_ne (by omega), up1_ne (by omega), up1_hit, if_neg (by omega), if_neg (by omega), if_neg (by omega), if_pos (by omega)]
      · rw [up1_ne (by omega), up1_ne (by omega), up1_hit, if_neg (by omega), if_neg (by omega), if_pos (by omega)]
      · rw [up1_ne (by omega), up1_hit, if_neg (by omega), if_pos (by omega)]
      · rw [up1_hit, if_pos (by omega)]
    · rw [up1_ne (by omega), up1_ne (by omega), up1_ne (by omega), up1_ne (by omega), up1_ne (by omega), hsh _ (by omega) (by omega), show 183 + 5 * k + e - 5 = 183 + 5 * (k - 1) + e by omega, h6 (k - 1) e (by omega) he]
      have hi : ((q + 1) % 60 + 60 - 1 - k) % 60 = (q + 60 - 1 - (k - 1)) % 60 := by omega
      have hne : (q + 60 - 1 - (k - 1)) % 60 ≠ q := by omega
      rw [hi, if_neg (by omega), if_neg (by omega), if_neg (by omega), if_neg (by omega), if_neg (by omega)]
      rfl
