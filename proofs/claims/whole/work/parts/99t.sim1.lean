/-! THE RELATION: drains as bits -/
def DrB (w : Nat → Int32) : Prop := ∀ c, c < 25 → w (9 + 6 * c + 2) = nI 0 ∨ w (9 + 6 * c + 2) = nI 1
theorem drW_s {w : Nat → Int32} {i : Nat} : drW w (i + 1) = drW w i ||| jshl (w (9 + 6 * i + 2)) (nI i) := rfl
theorem nI_01 : ¬ nI 0 = nI 1 := by decide
theorem dr_one {w : Nat → Int32} {i j : Nat} (h : w (9 + 6 * i + 2) = nI 0 ∨ w (9 + 6 * i + 2) = nI 1) (hi : i < 32) (hj : j < 32) : btI (jshl (w (9 + 6 * i + 2)) (nI i)) j = (decide (j = i) && decide (w (9 + 6 * i + 2) = nI 1)) := by
  rcases h with h | h
  · rw [h, bt_jshl _ hi hj, bt_n0, Bool.and_false, decide_eq_false nI_01, Bool.and_false]
  · rw [h, bt_s1 i hi j hj, decide_eq_true rfl, Bool.and_true]
theorem drW_bt {w : Nat → Int32} (h : DrB w) {j : Nat} (hj : j < 32) : ∀ i, i ≤ 25 → btI (drW w i) j = (decide (j < i) && decide (w (9 + 6 * j + 2) = nI 1))
  | 0 => fun _ => by
    rw [show drW w 0 = nI 0 from rfl, bt_n0, decide_eq_false (by omega), Bool.false_and]
  | i + 1 => fun hi => by
    rw [drW_s, b_or, drW_bt h hj i (by omega), dr_one (h i (by omega)) (by omega) hj]
    by_cases e : j = i
    · subst e
      rw [decide_eq_false (show ¬ j < j by omega), decide_eq_true (show j < j + 1 by omega), decide_eq_true (show j = j from rfl), Bool.false_and, Bool.false_or]
    · rw [decide_eq_false e, Bool.false_and, Bool.or_false]
      congr 1
      exact decide_eq_decide.mpr (by omega)
theorem dr_bt {w : Nat → Int32} (h : DrB w) {c : Nat} (hc : c < 25) : btI (drW w 25) c = decide (w (9 + 6 * c + 2) = nI 1) := by
  rw [drW_bt h (by omega) 25 (by decide), decide_eq_true hc, Bool.true_and]
theorem dr_has {w : Nat → Int32} (h : DrB w) {c : Nat} (hc : c < 25) : hasP (drW w 25) c ↔ w (9 + 6 * c + 2) = nI 1 := by
  rw [hasP_bt (by omega), dr_bt h hc, decide_eq_true_iff]
theorem dr_has0 {w : Nat → Int32} (h : DrB w) {c : Nat} (hc : c < 25) : ¬ hasP (drW w 25) c ↔ w (9 + 6 * c + 2) = nI 0 := by
  rw [dr_has h hc]
  constructor
  · intro q
    rcases h c hc with e | e
    · exact e
    · exact absurd e q
  · intro e q; rw [e] at q; exact nI_01 q
theorem dr_low {w : Nat → Int32} (h : DrB w) : low25 (drW w 25) := low25_iff.mpr (fun j h1 h2 => by
  rw [drW_bt h h2 25 (by decide), decide_eq_false (by omega), Bool.false_and])
theorem dr_ext {w w2 : Nat → Int32} (h : ∀ c, c < 25 → w2 (9 + 6 * c + 2) = w (9 + 6 * c + 2)) : drW w2 25 = drW w 25 := by
  have : ∀ i, i ≤ 25 → drW w2 i = drW w i := by
    intro i
    induction i with
    | zero => intro _; rfl
    | succ i ih => intro hi; rw [drW_s, drW_s, ih (by omega), h i (by omega)]
  exact this 25 (Nat.le_refl _)
theorem drB_put {w : Nat → Int32} (h : DrB w) {c : Nat} {v : Int32} (hv : v = nI 0 ∨ v = nI 1) : DrB (up1 w (9 + 6 * c + 2) v) := fun i hi => by
  by_cases e : i = c
  · subst e; rw [up1_hit]; exact hv
  · rw [up1_ne (by omega)]; exact h i hi
theorem dr_put1 {w : Nat → Int32} (h : DrB w) {c : Nat} (hc : c < 25) : drW (up1 w (9 + 6 * c + 2) (nI 1)) 25 = drW w 25 ||| jshl (nI 1) (nI c) := by
  have h2 := drB_put h (c := c) (v := nI 1) (Or.inr rfl)
  refine low25_ext (dr_low h2) (low25_or (dr_low h) (low25_s1 hc)) (fun j hj => ?_)
  rw [dr_bt h2 hj, b_or, dr_bt h hj, bt_s1 c (by omega) j (by omega)]
  by_cases e : j = c
  · subst e; rw [up1_hit, decide_eq_true rfl, decide_eq_true (show j = j from rfl), Bool.or_true]
  · rw [up1_ne (by omega), decide_eq_false e, Bool.or_false]
theorem dr_put0 {w : Nat → Int32} (h : DrB w) {c : Nat} (hc : c < 25) : drW (up1 w (9 + 6 * c + 2) (nI 0)) 25 = drW w 25 &&& (jshl (nI 1) (nI c) ^^^ (-1)) := by
  have h2 := drB_put h (c := c) (v := nI 0) (Or.inl rfl)
  refine low25_ext (dr_low h2) (low25_and (dr_low h)) (fun j hj => ?_)
  rw [dr_bt h2 hj, b_and, dr_bt h hj, bt_nt (by omega), bt_s1 c (by omega) j (by omega)]
  by_cases e : j = c
  · subst e; rw [up1_hit, decide_eq_false nI_01, decide_eq_true (show j = j from rfl)]
    cases decide (w (9 + 6 * j + 2) = nI 1) <;> rfl
  · rw [up1_ne (by omega), decide_eq_false e]
    cases decide (w (9 + 6 * j + 2) = nI 1) <;> rfl
/-- the log: a ring in the class, a shifted row in the world -/
def LogR (S : Mem) (w : Nat → Int32) : Prop := ∃ q g, q < 60 ∧ g ≤ 60 ∧ S 10 1 = nI q ∧ S 10 2 = nI g ∧ w 7 = nI g ∧ ∀ k e, k < g → e < 5 → w (183 + 5 * k + e) = S 11 ((q + 60 - 1 - k) % 60 * 5 + e)
/-- a state of the class and a world say the same -/
def SimS (S : Mem) (w : Nat → Int32) : Prop := (∀ k j, k < 10 → inS k j = true → S k j = Sv w k j) ∧ LogR S w ∧ Nrm S ∧ DrB w
theorem sim_bt {S : Mem} {w : Nat → Int32} (h : SimS S w) : S 0 11 = drW w 25 := h.1 0 11 (by decide) (by decide)
theorem sim_0 {S : Mem} {w : Nat → Int32} (h : SimS S w) : S 0 10 = w 0 ∧ S 0 12 = w 3 ∧ S 0 13 = w 4 ∧ S 0 14 = w 5 ∧ S 0 15 = w 6 ∧ S 0 16 = w 8 ∧ S 0 17 = w 1 := ⟨h.1 0 10 (by decide) (by decide), h.1 0 12 (by decide) (by decide), h.1 0 13 (by decide) (by decide), h.1 0 14 (by decide) (by decide), h.1 0 15 (by decide) (by decide), h.1 0 16 (by decide) (by decide), h.1 0 17 (by decide) (by decide)⟩
theorem sim_k {S : Mem} {w : Nat → Int32} {k j : Nat} (h : SimS S w) (hk : 1 ≤ k) (hk5 : k < 6) (hj : j < 25) : S k j = Sv w k j := h.1 k j (by omega) (by unfold inS; rw [if_neg (by omega), if_pos hk5]; exact decide_eq_true hj)
theorem sim_h {S : Mem} {w : Nat → Int32} {k j : Nat} (h : SimS S w) (hk : 6 ≤ k) (hk5 : k < 10) (hj : j < 6) : S k j = Sv w k j := h.1 k j (by omega) (by unfold inS; rw [if_neg (by omega), if_neg (by omega), if_pos hk5]; exact decide_eq_true hj)
