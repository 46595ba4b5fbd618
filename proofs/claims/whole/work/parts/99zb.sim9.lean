/-! THE RELATION: a law that both have read -/
theorem lawA_wf {tv : Nat → Nat} {T p : Nat} {C : Mem} (hT : T ≤ 400) (hC : C 44 0 = nI 0) (hp : p ≤ T) (h : (lawA tv T C p).1 = true) : ∃ m bg, m ≤ 12 ∧ (lawA tv T C p).2.1 41 5 = nI m ∧ LwF (lawA tv T C p).2.1 (lawA tv T C p).2.2.1.1 m bg ∧ (lawA tv T C p).2.2.1.2 ≤ 400 ∧ ∀ l, l ≤ m → bg l ≤ (lawA tv T C p).2.2.1.2 := by
  have h44 : ∀ l, l ≤ 0 → up2 C 41 5 (nI 0) 44 l = nI ((fun _ => 0 : Nat → Nat) l) := fun l hl => by
    obtain rfl : l = 0 := by omega
    rw [up2_row (by decide)]; exact hC
  unfold lawA at h ⊢
  by_cases c : T ≤ p
  · rw [if_pos c]
    exact ⟨0, fun _ => 0, by decide, (show up2 C 41 5 (nI 0) 41 5 = nI 0 from up2_hit), ⟨h44, fun l hl => absurd hl (by omega)⟩, Nat.zero_le 400, fun l _ => Nat.zero_le _⟩
  · rw [if_neg c] at h ⊢
    obtain ⟨m, bg, m1, m2, m3, -, m5, m6⟩ := lawL_wf hT 12 0 (up2 C 41 5 (nI 0)) (C 45, 0) p (fun _ => 0) hp (Nat.zero_le p) ⟨h44, fun l hl => absurd hl (by omega)⟩ rfl (fun l _ => Nat.le_refl 0) h
    exact ⟨m, bg, by omega, m2, m3, m5, m6⟩
theorem lawS_mk {I J : Mem} {la m : Nat} {st : Sz} {bg : Nat → Nat} {w : Nat → Int32} (hF : LwF J st.1 m bg) (hz : st.2 ≤ 400) (hb : ∀ l, l ≤ m → bg l ≤ st.2) (hW : LawW w J m st) (k1 : ∀ j, j < m → I (la + 1) j = J 42 j) (k2 : ∀ j, j < m → I (la + 2) j = J 43 j) (k4 : ∀ j, j < st.2 → I (la + 4) j = st.1 j) : LawS I la m st.2 bg w := by
  refine ⟨hz, fun l hl => ?_, fun t ht => ?_⟩
  · obtain ⟨f1, f2, -, -⟩ := hF.2 l hl
    obtain ⟨w1, w2, -, -⟩ := hW.2.1 l hl
    have := hb (l + 1) (by omega)
    exact ⟨(k1 l hl).trans w1.symm, (k2 l hl).trans w2.symm, f1, this, f2.imp id (fun q => ex_cg q (fun j j1 j2 => k4 j (by omega)))⟩
  · rw [k4 t ht]; exact hW.2.2 t ht
theorem lawW_ro {J : Mem} {m : Nat} {st : Sz} {bg : Nat → Nat} {w : Nat → Int32} (hm : m ≤ 12) (h2 : w 2 = nI 1) (hF : LwF J st.1 m bg) (hz : st.2 ≤ 400) (hb : ∀ l, l ≤ m → bg l ≤ st.2) (hW : LawW w J m st) : RO w (some (m, bg, fun l => bg (l + 1))) := by
  refine ⟨h2, hW.1, hm, fun l hl => ?_⟩
  obtain ⟨f1, f2, -, -⟩ := hF.2 l hl
  obtain ⟨-, -, w3, w4⟩ := hW.2.1 l hl
  have hb1 := hb (l + 1) (by omega)
  refine ⟨w3.trans (hF.1 l (by omega)), w4.trans (hF.1 (l + 1) (by omega)), f1, Nat.le_trans hb1 hz, ?_⟩
  rcases f2 with e | e
  · rw [e, Nat.sub_self]
    exact fun j hj => absurd hj (by omega)
  · exact ex_ln e (fun i i1 i2 => (hW.2.2 i (Nat.lt_of_lt_of_le i2 hb1)).1)
