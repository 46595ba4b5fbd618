/-! CONSTRUCTORS of the class -/
def i0 (a j : Nat) : Int32 := bif Nat.blt a 37 then (bif Nat.beq a 0 then 0 else iS ((a - 1) % 12) j) else bif Nat.blt a 174 then 0 else bif Nat.blt a 318 then iS ((a - 174) % 12) j else 0
/-- the cells below b are made -/
def Upb (b : Nat) (K0 : Nat → Nat × Nat) (I0 : Mem) (L0 : Nat → Nat → Int64) (R0 : Nat → Nat → Option Nat) (K : Nat → Nat × Nat) (I : Mem) (L : Nat → Nat → Int64) (R : Nat → Nat → Option Nat) : Prop :=
  (∀ a, 1 ≤ a → a < b → some (K a) = k0 a ∧ (∀ j, I a j = i0 a j) ∧ (a ≠ 37 → ∀ j, R a j = r0 a j)) ∧ ∀ a, b ≤ a → K a = K0 a ∧ I a = I0 a ∧ L a = L0 a ∧ R a = R0 a
/-- the object 0 -/
def Ob0 (K : Nat → Nat × Nat) (I : Mem) (R : Nat → Nat → Option Nat) (jr : Nat → Int32) (rr : Nat → Option Nat) : Prop := K 0 = (1, 0) ∧ (∀ j, I 0 j = jr j) ∧ ∀ j, R 0 j = rr j
section
variable {b m : Nat} {kf : Nat → Nat × Nat} {jf : Nat → Nat → Int32} {rf : Nat → Nat → Option Nat} {K0 K K2 : Nat → Nat × Nat} {I0 I I2 : Mem} {L0 L L2 : Nat → Nat → Int64} {R0 R R2 : Nat → Nat → Option Nat} {jr : Nat → Int32} {rr : Nat → Option Nat}
theorem ub_n (h : Upb b K0 I0 L0 R0 K I L R) (hb : 1 ≤ b) (hc : ∀ k, k < m → some (kf k) = k0 (b + k) ∧ (∀ j, jf k j = i0 (b + k) j) ∧ (b + k ≠ 37 → ∀ j, rf k j = r0 (b + k) j)) (g : NwC b m kf jf rf K I L R K2 I2 L2 R2) : Upb (b + m) K0 I0 L0 R0 K2 I2 L2 R2 := by
  refine ⟨fun a a1 a2 => ?_, fun a a1 => ?_⟩
  · by_cases e : a < b
    · obtain ⟨e1, e2, -, e4⟩ := g.1 a (Or.inl e)
      rw [e1, e2, e4]; exact h.1 a a1 e
    · obtain ⟨k, rfl⟩ : ∃ k, a = b + k := ⟨a - b, by omega⟩
      obtain ⟨e1, e2, e3⟩ := g.2 k (by omega)
      obtain ⟨c1, c2, c3⟩ := hc k (by omega)
      exact ⟨by rw [e1]; exact c1, fun j => (e2 j).trans (c2 j), fun hne j => (e3 j).trans (c3 hne j)⟩
  · obtain ⟨e1, e2, e3, e4⟩ := g.1 a (Or.inr a1)
    rw [e1, e2, e3, e4]; exact h.2 a (by omega)
theorem ob_n (h : Ob0 K I R jr rr) (hb : 1 ≤ b) (g : NwC b m kf jf rf K I L R K2 I2 L2 R2) : Ob0 K2 I2 R2 jr rr := by
  obtain ⟨e1, e2, -, e4⟩ := g.1 0 (Or.inl hb)
  exact ⟨e1.trans h.1, fun j => by rw [e2]; exact h.2.1 j, fun j => by rw [e4]; exact h.2.2 j⟩
theorem ub_r {j : Nat} {v : Option Nat} (h : Upb b K0 I0 L0 R0 K I L R) (hb : 1 ≤ b) : Upb b K0 I0 L0 R0 K I L (up2 R 0 j v) := by
  refine ⟨fun a a1 a2 => ?_, fun a a1 => ?_⟩
  · rw [up2_row (show a ≠ 0 by omega)]; exact h.1 a a1 a2
  · rw [up2_row (show a ≠ 0 by omega)]; exact h.2 a a1
theorem ub_i {j : Nat} {v : Int32} (h : Upb b K0 I0 L0 R0 K I L R) (hb : 1 ≤ b) : Upb b K0 I0 L0 R0 K (up2 I 0 j v) L R := by
  refine ⟨fun a a1 a2 => ?_, fun a a1 => ?_⟩
  · rw [up2_row (show a ≠ 0 by omega)]; exact h.1 a a1 a2
  · rw [up2_row (show a ≠ 0 by omega)]; exact h.2 a a1
theorem ob_r {j : Nat} {v : Option Nat} (h : Ob0 K I R jr rr) : Ob0 K I (up2 R 0 j v) jr (up1 rr j v) := ⟨h.1, h.2.1, fun i => by
  rw [up2_same]; unfold up1
  by_cases e : i = j
  · rw [if_pos e, if_pos e]
  · rw [if_neg e, if_neg e]; exact h.2.2 i⟩
theorem ob_i {j : Nat} {v : Int32} (h : Ob0 K I R jr rr) : Ob0 K (up2 I 0 j v) R (up1 jr j v) rr := ⟨h.1, fun i => by
  rw [up2_same]; unfold up1
  by_cases e : i = j
  · rw [if_pos e, if_pos e]
  · rw [if_neg e, if_neg e]; exact h.2.1 i, h.2.2⟩
theorem nw_1 {n : Nat} {kd : Nat × Nat} : NwC n 1 (fun _ => kd) (fun _ _ => 0) (fun _ _ => none) K I L R (up1 K n kd) (upr I n (fun _ => 0)) (upr L n (fun _ => 0)) (upr R n (fun _ => none)) := by
  refine ⟨fun a ha => ?_, fun k hk => ?_⟩
  · exact ⟨up1_x (by omega), upr_x (by omega), upr_x (by omega), upr_x (by omega)⟩
  · obtain rfl : k = 0 := by omega
    exact ⟨up1_y, fun j => by rw [show n + 0 = n from rfl, upr_y], fun j => by rw [show n + 0 = n from rfl, upr_y]⟩
theorem ub_0 : Upb 1 K I L R (up1 K 0 (1, 0)) (upr I 0 (fun _ => 0)) (upr L 0 (fun _ => 0)) (upr R 0 (fun _ => none)) := ⟨fun a a1 a2 => absurd a2 (by omega), fun a a1 => ⟨up1_x (by omega), upr_x (by omega), upr_x (by omega), upr_x (by omega)⟩⟩
theorem ob_0 : Ob0 (up1 K 0 (1, 0)) (upr I 0 (fun _ => 0)) (upr R 0 (fun _ => none)) (fun _ => 0) (fun _ => none) := ⟨up1_y, fun j => by rw [upr_y], fun j => by rw [upr_y]⟩
end
theorem blt_t2 {x y : Nat} (h : x < y) : Nat.blt x y = true := Nat.blt_eq.mpr h
theorem st_k {b k : Nat} (hb : isSt b) (hk : k < 12) : some (kS k) = k0 (b + k) := by
  have h1 : some (kS k) = k0s k := by
    have : ∀ k : Fin 12, some (kS k.1) = k0s k.1 := by decide
    exact this ⟨k, hk⟩
  rw [h1]
  unfold k0
  rcases hb with ⟨h2, h3, h4⟩ | ⟨h2, h3, h4⟩
  · rw [blt_t2 (show b + k < 37 by omega), beq_f (x := b + k) (y := 0) (by omega), show (b + k - 1) % 12 = k by omega]; rfl
  · rw [blt_f (show 37 ≤ b + k by omega), blt_f (show 50 ≤ b + k by omega), blt_f (show 66 ≤ b + k by omega), blt_f (show 71 ≤ b + k by omega), blt_f (show 171 ≤ b + k by omega), blt_f (show 174 ≤ b + k by omega), blt_t2 (show b + k < 318 by omega), show (b + k - 174) % 12 = k by omega]; rfl
theorem st_i {b k j : Nat} (hb : isSt b) (hk : k < 12) : iS k j = i0 (b + k) j := by
  unfold i0
  rcases hb with ⟨h2, h3, h4⟩ | ⟨h2, h3, h4⟩
  · rw [blt_t2 (show b + k < 37 by omega), beq_f (x := b + k) (y := 0) (by omega), show (b + k - 1) % 12 = k by omega]; rfl
  · rw [blt_f (show 37 ≤ b + k by omega), blt_f (show 174 ≤ b + k by omega), blt_t2 (show b + k < 318 by omega), show (b + k - 174) % 12 = k by omega]; rfl
theorem st_rp {i k j : Nat} (hi : i < 12) (hk : k < 12) : r0s (174 + 12 * i) k j = r0 (174 + 12 * i + k) j := by
  unfold r0
  rw [beq_f (y := 0) (by omega), beq_f (y := 1) (by omega), beq_f (y := 11) (by omega), beq_f (y := 13) (by omega), beq_f (y := 23) (by omega), beq_f (y := 25) (by omega), beq_f (y := 35) (by omega), beq_f (y := 39) (by omega), beq_f (y := 40) (by omega), beq_f (y := 41) (by omega), beq_f (y := 46) (by omega), beq_f (y := 49) (by omega), beq_f (y := 66) (by omega), beq_f (y := 69) (by omega), beq_f (y := 70) (by omega), beq_f (y := 172) (by omega), blt_f (show 174 ≤ 174 + 12 * i + k by omega), blt_t2 (show 174 + 12 * i + k < 318 by omega), show (174 + 12 * i + k - 174) % 12 = k by omega, show 174 + 12 * i + k - k = 174 + 12 * i by omega]; rfl
theorem st_c {i : Nat} (hi : i < 12) : ∀ k, k < 12 → some (kS k) = k0 (174 + 12 * i + k) ∧ (∀ j, iS k j = i0 (174 + 12 * i + k) j) ∧ (174 + 12 * i + k ≠ 37 → ∀ j, r0s (174 + 12 * i) k j = r0 (174 + 12 * i + k) j) := fun k hk =>
  ⟨st_k (Or.inr ⟨by omega, by omega, by omega⟩) hk, fun j => st_i (Or.inr ⟨by omega, by omega, by omega⟩) hk, fun _ j => st_rp hi hk⟩
theorem nth_10 {x : Nat} {j : Nat} : (bif Nat.blt j 10 then some (x + j) else none) = nthO [x, x + 1, x + 2, x + 3, x + 4, x + 5, x + 6, x + 7, x + 8, x + 9] j := by
  by_cases h : j < 10
  · rw [blt_t2 h]
    have h2 : j = 0 ∨ j = 1 ∨ j = 2 ∨ j = 3 ∨ j = 4 ∨ j = 5 ∨ j = 6 ∨ j = 7 ∨ j = 8 ∨ j = 9 := by omega
    rcases h2 with rfl | rfl | rfl | rfl | rfl | rfl | rfl | rfl | rfl | rfl <;> rfl
  · rw [blt_f (by omega)]
    obtain ⟨i, rfl⟩ : ∃ i, j = i + 10 := ⟨j - 10, by omega⟩
    rfl
theorem nth_1 {x : Nat} {j : Nat} : (bif Nat.beq j 0 then some x else none) = nthO [x] j := by
  cases j with
  | zero => rfl
  | succ j => rfl

theorem st_c1 : ∀ k, k < 12 → some (kS k) = k0 (1 + k) ∧ (∀ j, iS k j = i0 (1 + k) j) ∧ (1 + k ≠ 37 → ∀ j, r0s 1 k j = r0 (1 + k) j) := fun k hk => ⟨st_k (Or.inl ⟨by decide, by decide, by decide⟩) hk, fun j => st_i (Or.inl ⟨by decide, by decide, by decide⟩) hk, fun _ j => by
  have h2 : k = 0 ∨ k = 1 ∨ k = 2 ∨ k = 3 ∨ k = 4 ∨ k = 5 ∨ k = 6 ∨ k = 7 ∨ k = 8 ∨ k = 9 ∨ k = 10 ∨ k = 11 := by omega
  rcases h2 with rfl | rfl | rfl | rfl | rfl | rfl | rfl | rfl | rfl | rfl | rfl | rfl
  · exact nth_10 (x := 2)
  · rfl
  · rfl
  · rfl
  · rfl
  · rfl
  · rfl
  · rfl
  · rfl
  · rfl
  · exact nth_1
  · rfl⟩
theorem st_c13 : ∀ k, k < 12 → some (kS k) = k0 (13 + k) ∧ (∀ j, iS k j = i0 (13 + k) j) ∧ (13 + k ≠ 37 → ∀ j, r0s 13 k j = r0 (13 + k) j) := fun k hk => ⟨st_k (Or.inl ⟨by decide, by decide, by decide⟩) hk, fun j => st_i (Or.inl ⟨by decide, by decide, by decide⟩) hk, fun _ j => by
  have h2 : k = 0 ∨ k = 1 ∨ k = 2 ∨ k = 3 ∨ k = 4 ∨ k = 5 ∨ k = 6 ∨ k = 7 ∨ k = 8 ∨ k = 9 ∨ k = 10 ∨ k = 11 := by omega
  rcases h2 with rfl | rfl | rfl | rfl | rfl | rfl | rfl | rfl | rfl | rfl | rfl | rfl
  · exact nth_10 (x := 14)
  · rfl
  · rfl
  · rfl
  · rfl
  · rfl
  · rfl
  · rfl
  · rfl
  · rfl
  · exact nth_1
  · rfl⟩
theorem st_c25 : ∀ k, k < 12 → some (kS k) = k0 (25 + k) ∧ (∀ j, iS k j = i0 (25 + k) j) ∧ (25 + k ≠ 37 → ∀ j, r0s 25 k j = r0 (25 + k) j) := fun k hk => ⟨st_k (Or.inl ⟨by decide, by decide, by decide⟩) hk, fun j => st_i (Or.inl ⟨by decide, by decide, by decide⟩) hk, fun _ j => by
  have h2 : k = 0 ∨ k = 1 ∨ k = 2 ∨ k = 3 ∨ k = 4 ∨ k = 5 ∨ k = 6 ∨ k = 7 ∨ k = 8 ∨ k = 9 ∨ k = 10 ∨ k = 11 := by omega
  rcases h2 with rfl | rfl | rfl | rfl | rfl | rfl | rfl | rfl | rfl | rfl | rfl | rfl
  · exact nth_10 (x := 26)
  · rfl
  · rfl
  · rfl
  · rfl
  · rfl
  · rfl
  · rfl
  · rfl
  · rfl
  · exact nth_1
  · rfl⟩
