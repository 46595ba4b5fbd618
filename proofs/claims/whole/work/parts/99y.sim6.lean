/-! THE RELATION: what a law's words say of a cell -/
/-- a state of the class and a world, as far as a law asks -/
def AskS (I : Mem) (b c : Nat) (dr : Int32) (w : Nat → Int32) : Prop := I (b + 1) c = w (9 + 6 * c + 0) ∧ I (b + 2) c = w (9 + 6 * c + 1) ∧ I (b + 3) c = w (9 + 6 * c + 3) ∧ I b 12 = w 3 ∧ I b 14 = w 5 ∧ (w 5 = nI 0 ∨ w 5 = nI 1) ∧ jshr dr (nI c) &&& nI 1 = jshr (alW w) (nI c) &&& nI 1
def facT (w : Nat → Int32) (c : Nat) (x : Int32) : Int32 := facC w c (tk1 x) (tk2 x)
theorem fac_v {w : Nat → Int32} {c v : Nat} (h : v < 1000) : facT w c (nI v) = nI v := by
  unfold facT facC
  rw [(tk_num h).1, (tk_num h).2, if_neg (show ¬ nI 10 = nI 0 by decide), if_neg (show ¬ nI 10 = nI 1 by decide), if_neg (show ¬ nI 10 = nI 2 by decide), if_neg (show ¬ nI 10 = nI 3 by decide), if_neg (show ¬ nI 10 = nI 4 by decide), if_neg (show ¬ nI 10 = nI 5 by decide), if_neg (show ¬ nI 10 = nI 6 by decide), if_neg (show ¬ nI 10 = nI 7 by decide), if_neg (show ¬ nI 10 = nI 8 by decide), if_neg (show ¬ nI 10 = nI 9 by decide)]
theorem tk_sub : ∀ k : Fin 10, nI (1000 + k.1) - nI 1000 = nI k.1 ∧ tk1 (nI (1000 + k.1)) = nI k.1 := by decide +kernel
theorem tk_ne : ∀ k j : Fin 10, (nI k.1 = nI j.1) = (k.1 = j.1) := by
  intro k j
  exact propext ⟨fun h => eq_nI h (by omega) (by omega), fun h => by rw [h]⟩
theorem fac_w {I : Mem} {b c k : Nat} {dr : Int32} {w : Nat → Int32} (h : AskS I b c dr w) (hk : k < 10) : valC I b c dr (nI (1000 + k)) = facT w c (nI (1000 + k)) := by
  obtain ⟨h1, h2, h3, h4, h5, h6, h7⟩ := h
  obtain ⟨e1, e2⟩ := tk_sub ⟨k, hk⟩
  dsimp only at e1 e2
  have hk2 : k = 0 ∨ k = 1 ∨ k = 2 ∨ k = 3 ∨ k = 4 ∨ k = 5 ∨ k = 6 ∨ k = 7 ∨ k = 8 ∨ k = 9 := by omega
  unfold valC facT facC
  rw [e1, e2, h1, h2, h3, h4, h5, h7]
  rcases hk2 with rfl | rfl | rfl | rfl | rfl | rfl | rfl | rfl | rfl | rfl
  · rw [if_pos rfl, if_pos rfl]
  · rw [if_neg (show ¬ nI 1 = nI 0 by decide), if_pos rfl, if_neg (show ¬ nI 1 = nI 0 by decide), if_pos rfl]
  all_goals simp only [show (nI 2 = nI 0) = False from eq_false (by decide), show (nI 2 = nI 1) = False from eq_false (by decide), show (nI 3 = nI 0) = False from eq_false (by decide), show (nI 3 = nI 1) = False from eq_false (by decide), show (nI 3 = nI 2) = False from eq_false (by decide), show (nI 4 = nI 0) = False from eq_false (by decide), show (nI 4 = nI 1) = False from eq_false (by decide), show (nI 4 = nI 2) = False from eq_false (by decide), show (nI 4 = nI 3) = False from eq_false (by decide), show (nI 5 = nI 0) = False from eq_false (by decide), show (nI 5 = nI 1) = False from eq_false (by decide), show (nI 5 = nI 2) = False from eq_false (by decide), show (nI 5 = nI 3) = False from eq_false (by decide), show (nI 5 = nI 4) = False from eq_false (by decide), show (nI 6 = nI 0) = False from eq_false (by decide), show (nI 6 = nI 1) = False from eq_false (by decide), show (nI 6 = nI 2) = False from eq_false (by decide), show (nI 6 = nI 3) = False from eq_false (by decide), show (nI 6 = nI 4) = False from eq_false (by decide), show (nI 6 = nI 5) = False from eq_false (by decide), show (nI 7 = nI 0) = False from eq_false (by decide), show (nI 7 = nI 1) = False from eq_false (by decide), show (nI 7 = nI 2) = False from eq_false (by decide), show (nI 7 = nI 3) = False from eq_false (by decide), show (nI 7 = nI 4) = False from eq_false (by decide), show (nI 7 = nI 5) = False from eq_false (by decide), show (nI 7 = nI 6) = False from eq_false (by decide), show (nI 8 = nI 0) = False from eq_false (by decide), show (nI 8 = nI 1) = False from eq_false (by decide), show (nI 8 = nI 2) = False from eq_false (by decide), show (nI 8 = nI 3) = False from eq_false (by decide), show (nI 8 = nI 4) = False from eq_false (by decide), show (nI 8 = nI 5) = False from eq_false (by decide), show (nI 8 = nI 6) = False from eq_false (by decide), show (nI 8 = nI 7) = False from eq_false (by decide), show (nI 9 = nI 0) = False from eq_false (by decide), show (nI 9 = nI 1) = False from eq_false (by decide), show (nI 9 = nI 2) = False from eq_false (by decide), show (nI 9 = nI 3) = False from eq_false (by decide), show (nI 9 = nI 4) = False from eq_false (by decide), show (nI 9 = nI 5) = False from eq_false (by decide), show (nI 9 = nI 6) = False from eq_false (by decide), show (nI 9 = nI 7) = False from eq_false (by decide), show (nI 9 = nI 8) = False from eq_false (by decide), if_false, if_true]
  rcases h6 with h6 | h6
  · rw [h6, if_pos rfl]
  · rw [h6, if_neg (by decide)]
theorem fac_b {I : Mem} {b c k : Nat} {dr : Int32} {w : Nat → Int32} (h : AskS I b c dr w) (hc : c < 32) (hk : k < 3) : facT w c (nI (1007 + k)) = nI 0 ∨ facT w c (nI (1007 + k)) = nI 1 := by
  have e := fac_w h (k := 7 + k) (by omega)
  rw [show 1000 + (7 + k) = 1007 + k by omega] at e
  rw [← e]
  have e1 := (tk_sub ⟨7 + k, by omega⟩).1
  dsimp only at e1
  rw [show 1000 + (7 + k) = 1007 + k by omega] at e1
  have ne : ∀ j, j < 7 → ¬ nI (7 + k) = nI j := fun j hj q => absurd (eq_nI q (by omega) (by omega)) (by omega)
  unfold valC
  rw [e1, if_neg (ne 0 (by decide)), if_neg (ne 1 (by decide)), if_neg (ne 2 (by decide)), if_neg (ne 3 (by decide)), if_neg (ne 4 (by decide)), if_neg (ne 5 (by decide)), if_neg (ne 6 (by decide))]
  by_cases c7 : nI (7 + k) = nI 7
  · rw [if_pos c7, and1_bt hc]; exact if_bit
  · rw [if_neg c7]
    by_cases c8 : nI (7 + k) = nI 8
    · rw [if_pos c8]
      by_cases q : I b 14 = nI 0
      · rw [if_pos q]; exact Or.inl rfl
      · rw [if_neg q]; exact Or.inr rfl
    · rw [if_neg c8]; exact if_bit
