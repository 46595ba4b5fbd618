/-! THE RELATION: what turves gain, how deep carts sink -/
theorem lawS_upr {I : Mem} {la m z : Nat} {bg : Nat → Nat} {w g : Nat → Int32} (h : LawS I la m z bg w) : LawS (upr I (la + 5) g) la m z bg w := by
  unfold LawS
  rw [upr_ne (show la + 1 ≠ la + 5 by omega), upr_ne (show la + 2 ≠ la + 5 by omega), upr_ne (show la + 4 ≠ la + 5 by omega)]
  exact h
/-- the law of the class and that of the world, or none in both -/
def LawOO (I : Mem) (b : Nat) (o : LawT) (w : Nat → Int32) (ro : RwT) : Prop := match o, ro with
  | none, none => True
  | some (la, m, z, bg), some (m2, b0, b1) => m2 = m ∧ b0 = bg ∧ b1 = (fun l => bg (l + 1)) ∧ LawS I la m z bg w ∧ (la + 6 ≤ b ∨ b + 12 ≤ la)
  | _, _ => False
theorem add_0 (x : Int32) : x + nI 0 = x := Int32.add_zero x
theorem sub_0 (x : Int32) : x - nI 0 = x := Int32.sub_zero x
theorem plain_eq {I : Mem} {b c : Nat} {dr : Int32} {w : Nat → Int32} (h : AskS I b c dr w) (h5 : I (b + 5) c = w (9 + 6 * c + 5)) : plainG I b c = (if w 5 = nI 1 then w (9 + 6 * c + 5) - nI 3 else w 3 + nI 2 * w (9 + 6 * c + 5)) := by
  obtain ⟨-, -, -, h4, h14, h6, -⟩ := h
  unfold plainG
  rw [h4, h14, h5]
  rcases h6 with q | q
  · rw [q, if_pos rfl, if_neg (by decide)]
  · rw [q, if_neg (by decide), if_pos rfl]
theorem gain_eq {I : Mem} {b c : Nat} {dr : Int32} {w : Nat → Int32} {o : LawT} {ro : RwT} (hL : LawOO I b o w ro) (h : AskS I b c dr w) (h5 : I (b + 5) c = w (9 + 6 * c + 5)) (hc : c < 25) : (gainF I b c dr o).1 = rgain w c ro := by
  match o, ro, hL with
  | none, none, _ =>
    show plainG I b c = (if w 5 = nI 1 then w (9 + 6 * c + 5) - nI 3 else w 3 + nI 2 * w (9 + 6 * c + 5)) + nI 0 - nI 0
    rw [add_0, sub_0, plain_eq h h5]
  | some (la, m, z, bg), some (m2, b0, b1), hL =>
    obtain ⟨rfl, rfl, rfl, hS, ho⟩ := hL
    show plainG I b c + (totC I la b c dr (nI 0) b0 m2).1 - (totC (upr I (la + 5) (totC I la b c dr (nI 0) b0 m2).2) la b c dr (nI 1) b0 m2).1 = (if w 5 = nI 1 then w (9 + 6 * c + 5) - nI 3 else w 3 + nI 2 * w (9 + 6 * c + 5)) + (rtot w c (nI 0) b0 (fun l => b0 (l + 1)) (fun _ => nI 0) m2).1 - (rtot w c (nI 1) b0 (fun l => b0 (l + 1)) (fun _ => nI 0) m2).1
    rw [tot_eq (v := fun _ => nI 0) hS h hc ho m2 (Nat.le_refl _), tot_eq (v := fun _ => nI 0) (lawS_upr hS) (ask_upr h ho) hc ho m2 (Nat.le_refl _), plain_eq h h5]
theorem sink_eq {I : Mem} {b c : Nat} {dr : Int32} {w : Nat → Int32} {o : LawT} {ro : RwT} (hL : LawOO I b o w ro) (h : AskS I b c dr w) (hc : c < 25) : (sinkF I b c dr o).1 = rsink w c ro := by
  match o, ro, hL with
  | none, none, _ =>
    show I (b + 2) c = w (9 + 6 * c + 1) + nI 0
    rw [add_0]; exact h.2.1
  | some (la, m, z, bg), some (m2, b0, b1), hL =>
    obtain ⟨rfl, rfl, rfl, hS, ho⟩ := hL
    show I (b + 2) c + (totC I la b c dr (nI 2) b0 m2).1 = w (9 + 6 * c + 1) + (rtot w c (nI 2) b0 (fun l => b0 (l + 1)) (fun _ => nI 0) m2).1
    rw [tot_eq (v := fun _ => nI 0) hS h hc ho m2 (Nat.le_refl _), h.2.1]
