/-! THE CLASS IS MADE -/
section
variable {b n : Nat} {kd : Nat × Nat} {K0 K K2 : Nat → Nat × Nat} {I0 I I2 : Mem} {L0 L L2 : Nat → Nat → Int64} {R0 R R2 : Nat → Nat → Option Nat} {jr : Nat → Int32} {rr : Nat → Option Nat}
theorem ob_n1 (h : Ob0 K I R jr rr) (hn : 1 ≤ n) : Ob0 (up1 K n kd) (upr I n (fun _ => 0)) (upr R n (fun _ => none)) jr rr := ⟨(up1_x (by omega)).trans h.1, fun j => by rw [upr_x (by omega)]; exact h.2.1 j, fun j => by rw [upr_x (by omega)]; exact h.2.2 j⟩
theorem ub_37 {j : Nat} {v : Option Nat} (h : Upb b K0 I0 L0 R0 K I L R) (hb : 38 ≤ b) : Upb b K0 I0 L0 R0 K I L (up2 R 37 j v) := by
  refine ⟨fun a a1 a2 => ?_, fun a a1 => ?_⟩
  · obtain ⟨h1, h2, h3⟩ := h.1 a a1 a2
    exact ⟨h1, h2, fun hne j => by rw [up2_row hne]; exact h3 hne j⟩
  · rw [up2_row (show a ≠ 37 by omega)]; exact h.2 a a1
theorem ob_37 {j : Nat} {v : Option Nat} (h : Ob0 K I R jr rr) : Ob0 K I (up2 R 37 j v) jr rr := ⟨h.1, h.2.1, fun i => by rw [up2_row (by decide)]; exact h.2.2 i⟩
end
theorem i0_m {a j : Nat} (h : 37 ≤ a) (h2 : a < 174) : (0 : Int32) = i0 a j := by unfold i0; rw [blt_f h, blt_t2 h2]; rfl
theorem r0_no {a j : Nat} (h : a < 174) (h2 : 36 ≤ a) (h3 : a ≠ 39 ∧ a ≠ 40 ∧ a ≠ 41 ∧ a ≠ 46 ∧ a ≠ 49 ∧ a ≠ 66 ∧ a ≠ 69 ∧ a ≠ 70 ∧ a ≠ 172) : none = r0 a j := by
  unfold r0
  rw [beq_f (y := 0) (by omega), beq_f (y := 1) (by omega), beq_f (y := 11) (by omega), beq_f (y := 13) (by omega), beq_f (y := 23) (by omega), beq_f (y := 25) (by omega), beq_f (y := 35) (by omega), beq_f (y := 39) (by omega), beq_f (y := 40) (by omega), beq_f (y := 41) (by omega), beq_f (y := 46) (by omega), beq_f (y := 49) (by omega), beq_f (y := 66) (by omega), beq_f (y := 69) (by omega), beq_f (y := 70) (by omega), beq_f (y := 172) (by omega), blt_t2 h]; rfl
abbrev Mad (b m : Nat) (kf : Nat → Nat × Nat) (rf : Nat → Nat → Option Nat) : Prop := ∀ k, k < m → some (kf k) = k0 (b + k) ∧ (∀ j, (0 : Int32) = i0 (b + k) j) ∧ (b + k ≠ 37 → ∀ j, rf k j = r0 (b + k) j)
theorem mad_37 : Mad 37 1 (fun _ => (54, 12)) (fun _ _ => none) := fun k hk => by
  obtain rfl : k = 0 := by omega
  exact ⟨rfl, fun j => i0_m (by decide) (by decide), fun h => absurd rfl h⟩
theorem mad_38 : Mad 38 1 (fun _ => (50, 400)) (fun _ _ => none) := fun k hk => by
  obtain rfl : k = 0 := by omega
  exact ⟨rfl, fun j => i0_m (by decide) (by decide), fun _ j => r0_no (by decide) (by decide) (by decide)⟩
theorem mad_39 : Mad 39 1 (fun k => (nthO [(4, 0)] k).getD (0, 0)) (fun _ j => if j = 0 then some 38 else none) := fun k hk => by
  obtain rfl : k = 0 := by omega
  exact ⟨rfl, fun j => i0_m (by decide) (by decide), fun _ j => by cases j with
    | zero => rfl
    | succ j => rfl⟩
theorem mad_40 : Mad 40 1 (fun k => (nthO [(5, 0)] k).getD (0, 0)) (fun _ j => if j = 0 then some 39 else if j = 1 then some 13 else none) := fun k hk => by
  obtain rfl : k = 0 := by omega
  exact ⟨rfl, fun j => i0_m (by decide) (by decide), fun _ j => match j with
    | 0 => rfl
    | 1 => rfl
    | j + 2 => rfl⟩
theorem mad_41 : Mad 41 5 (fun k => (nthO [(6, 0), (50, 12), (50, 12), (50, 13), (50, 400)] k).getD (0, 0)) (fun k j => if k = 0 then (if j = 0 then some 39 else if j < 5 then some (41 + j) else none) else none) := fun k hk => by
  have hK : ∀ k : Fin 5, some ((nthO [(6, 0), (50, 12), (50, 12), (50, 13), (50, 400)] k.1).getD (0, 0)) = k0 (41 + k.1) := by decide
  refine ⟨hK ⟨k, hk⟩, fun j => i0_m (by omega) (by omega), fun _ j => ?_⟩
  dsimp only
  by_cases e : k = 0
  · subst e
    rw [if_pos rfl]
    by_cases h5 : j < 5
    · have h2 : j = 0 ∨ j = 1 ∨ j = 2 ∨ j = 3 ∨ j = 4 := by omega
      rcases h2 with rfl | rfl | rfl | rfl | rfl <;> rfl
    · rw [if_neg (by omega), if_neg h5]
      obtain ⟨i, rfl⟩ : ∃ i, j = i + 5 := ⟨j - 5, by omega⟩
      rfl
  · rw [if_neg e]; exact r0_no (by omega) (by omega) (by omega)
theorem mad_46 : Mad 46 20 (fun k => if k = 0 then (8, 0) else if k = 3 then (55, 16) else (50, 25)) (fun k j => if k = 0 then (if j < 3 then some (46 + 1 + j) else none) else if k = 3 then (if j < 16 then some (46 + 3 + 1 + j) else none) else none) := fun k hk => by
  have hK : ∀ k : Fin 20, some (if k.1 = 0 then ((8, 0) : Nat × Nat) else if k.1 = 3 then (55, 16) else (50, 25)) = k0 (46 + k.1) := by decide
  refine ⟨hK ⟨k, hk⟩, fun j => i0_m (by omega) (by omega), fun _ j => ?_⟩
  dsimp only
  by_cases e : k = 0
  · subst e
    rw [if_pos rfl]
    by_cases h5 : j < 3
    · have h2 : j = 0 ∨ j = 1 ∨ j = 2 := by omega
      rcases h2 with rfl | rfl | rfl <;> rfl
    · rw [if_neg h5]
      obtain ⟨i, rfl⟩ : ∃ i, j = i + 3 := ⟨j - 3, by omega⟩
      rfl
  · rw [if_neg e]
    by_cases e3 : k = 3
    · subst e3
      rw [if_pos rfl]
      show _ = bif Nat.blt j 16 then some (50 + j) else none
      by_cases h5 : j < 16
      · rw [if_pos h5, blt_t2 h5]; rfl
      · rw [if_neg h5, blt_f (by omega)]; rfl
    · rw [if_neg e3]; exact r0_no (by omega) (by omega) (by omega)
theorem mad_66 : Mad 66 3 (fun k => (nthO [(9, 0), (50, 25), (50, 25)] k).getD (0, 0)) (fun k j => if k = 0 then (if j < 2 then some (66 + 1 + j) else none) else none) := fun k hk => by
  have hK : ∀ k : Fin 3, some ((nthO [(9, 0), (50, 25), (50, 25)] k.1).getD (0, 0)) = k0 (66 + k.1) := by decide
  refine ⟨hK ⟨k, hk⟩, fun j => i0_m (by omega) (by omega), fun _ j => ?_⟩
  dsimp only
  by_cases e : k = 0
  · subst e
    rw [if_pos rfl]
    by_cases h5 : j < 2
    · have h2 : j = 0 ∨ j = 1 := by omega
      rcases h2 with rfl | rfl <;> rfl
    · rw [if_neg h5]
      obtain ⟨i, rfl⟩ : ∃ i, j = i + 2 := ⟨j - 2, by omega⟩
      rfl
  · rw [if_neg e]; exact r0_no (by omega) (by omega) (by omega)
theorem mad_69 : Mad 69 103 (fun k => if k = 0 then (10, 0) else if k = 1 then (55, 100) else (50, 10)) (fun k j => if k = 0 then (if j = 0 then some 38 else if j = 1 then some (69 + 1) else if j = 2 then some (69 + 102) else none) else if k = 1 then (if j < 100 then some (69 + 1 + 1 + j) else none) else none) := fun k hk => by
  have hK : ∀ k : Fin 103, some (if k.1 = 0 then ((10, 0) : Nat × Nat) else if k.1 = 1 then (55, 100) else (50, 10)) = k0 (69 + k.1) := by decide +kernel
  refine ⟨hK ⟨k, hk⟩, fun j => i0_m (by omega) (by omega), fun _ j => ?_⟩
  dsimp only
  by_cases e : k = 0
  · subst e
    rw [if_pos rfl]
    exact match j with
      | 0 => rfl
      | 1 => rfl
      | 2 => rfl
      | j + 3 => rfl
  · rw [if_neg e]
    by_cases e3 : k = 1
    · subst e3
      rw [if_pos rfl]
      show _ = bif Nat.blt j 100 then some (71 + j) else none
      by_cases h5 : j < 100
      · rw [if_pos h5, blt_t2 h5]; rfl
      · rw [if_neg h5, blt_f (by omega)]; rfl
    · rw [if_neg e3]; exact r0_no (by omega) (by omega) (by omega)
theorem mad_172 : Mad 172 2 (fun k => (nthO [(11, 0), (51, 64)] k).getD (0, 0)) (fun k j => if k = 0 ∧ j = 0 then some (172 + 1) else none) := fun k hk => by
  have hK : ∀ k : Fin 2, some ((nthO [(11, 0), (51, 64)] k.1).getD (0, 0)) = k0 (172 + k.1) := by decide
  refine ⟨hK ⟨k, hk⟩, fun j => i0_m (by omega) (by omega), fun _ j => ?_⟩
  dsimp only
  by_cases e : k = 0
  · subst e
    cases j with
    | zero => rfl
    | succ j => rw [if_neg (by omega)]; rfl
  · rw [if_neg (by omega)]; exact r0_no (by omega) (by omega) (by omega)

def obJ : Nat → Int32 := (up1 (up1 (up1 (up1 (fun _ => 0) 3 (nI 0)) 5 (nI 0)) 7 (nI 0)) 8 (-1))
def obR : Nat → Option Nat := (up1 (up1 (up1 (up1 (up1 (up1 (up1 (up1 (up1 (up1 (up1 (up1 (fun _ => none) 0 (some 1)) 1 (some 13)) 2 (some 25)) 4 (some 37)) 6 (some 38)) 9 (some 39)) 10 (some 40)) 11 (some 41)) 12 (some 46)) 13 (some 66)) 14 (some 69)) 15 (some 172))
theorem pst_n {i : Nat} {R R2 : Nat → Nat → Option Nat} (h : ∀ j, j < i → R 37 j = some (174 + 12 * j)) (g : R2 37 = R 37) : ∀ j, j < i + 1 → up2 R2 37 i (some (174 + 12 * i)) 37 j = some (174 + 12 * j) := fun j hj => by
  rw [up2_same]
  by_cases e : j = i
  · rw [if_pos e, e]
  · rw [if_neg e, g]; exact h j (by omega)
theorem c_tbI {d : Nat} {K : Nat → Nat × Nat} {I : Nat → Nat → Int32} {L : Nat → Nat → Int64} {R : Nat → Nat → Option Nat} {s : Nat} {Q : Lo → Lm → Prop}  (hs : s + 20000 ≤ lmSlots) (kk : ∀ K2 I2 L2 R2, Upb 318 K I L R K2 I2 L2 R2 → Ob0 K2 I2 R2 obJ obR → (∀ j, j < 12 → R2 37 j = some (174 + 12 * j)) → Q (.inl none) (K2, I2, L2, R2, 318, s + 9626)) : Ok (d + 4) 0 [.ref 0] (up1 K 0 (1, 0), upr I 0 (fun _ => 0), upr L 0 (fun _ => 0), upr R 0 (fun _ => none), 1, s) Q := by
  have hf : 1000 ≤ lmCells := by decide
  refine Ok.enter (F := F_0) (ls := [.ref 0, lDead]) rfl rfl ?_
  refine wp_aload0 (pc' := 1) rfl rfl ?_
  refine wp_obj (pc' := 4) rfl rfl rfl rfl ?_
  refine wp_aload0 (pc' := 5) rfl rfl ?_
  refine wp_nwN (ci := 2) (w := 19) (pc' := 8) (2) rfl rfl (by omega) (by omega) rfl rfl ?_
  refine wp_dup (pc' := 9) rfl rfl rfl ?_
  refine wp_callI1 (pc' := 12) rfl rfl rfl rfl rfl (by first | (rw [hO.1]) | (show (_ : Nat × Nat).1 = _; rw [hO.1]) | (simp [up1]; done) | (simp [lmK, up1]; done)) rfl rfl ?_
  refine c_stI (b := 1) (by omega) (by omega) (fun K1 I1 L1 R1 g => ?_)
  have hU := ub_n ub_0 (by decide) st_c1 g
  have hO := ob_n ob_0 (by decide) g
  clear g
  refine Cont.u ?_
  refine wp_putRF (pc' := 15) rfl rfl (by first | (rw [hO.1]) | (show (_ : Nat × Nat).1 = _; rw [hO.1]) | (simp [up1]; done) | (simp [lmK, up1]; done)) (by omega) rfl rfl rfl ?_
  replace hO := ob_r (j := 0) (v := some 1) hO
  replace hU := ub_r (j := 0) (v := some 1) hU (by decide)
  refine wp_aload0 (pc' := 16) rfl rfl ?_
  refine wp_nwN (ci := 2) (w := 19) (pc' := 19) (14) rfl rfl (by omega) (by omega) rfl rfl ?_
  refine wp_dup (pc' := 20) rfl rfl rfl ?_
  refine wp_callI1 (pc' := 23) rfl rfl rfl rfl rfl (by first | (rw [hO.1]) | (show (_ : Nat × Nat).1 = _; rw [hO.1]) | (simp [up1]; done) | (simp [lmK, up1]; done)) rfl rfl ?_
  refine c_stI (b := 13) (by omega) (by omega) (fun K2 I2 L2 R2 g => ?_)
  replace hU := ub_n hU (by decide) st_c13 g
  replace hO := ob_n hO (by decide) g
  clear g
  refine Cont.u ?_
  refine wp_putRF (pc' := 26) rfl rfl (by first | (rw [hO.1]) | (show (_ : Nat × Nat).1 = _; rw [hO.1]) | (simp [up1]; done) | (simp [lmK, up1]; done)) (by omega) rfl rfl rfl ?_
  replace hO := ob_r (j := 1) (v := some 13) hO
  replace hU := ub_r (j := 1) (v := some 13) hU (by decide)
  refine wp_aload0 (pc' := 27) rfl rfl ?_
  refine wp_nwN (ci := 2) (w := 19) (pc' := 30) (26) rfl rfl (by omega) (by omega) rfl rfl ?_
  refine wp_dup (pc' := 31) rfl rfl rfl ?_
  refine wp_callI1 (pc' := 34) rfl rfl rfl rfl rfl (by first | (rw [hO.1]) | (show (_ : Nat × Nat).1 = _; rw [hO.1]) | (simp [up1]; done) | (simp [lmK, up1]; done)) rfl rfl ?_
  refine c_stI (b := 25) (by omega) (by omega) (fun K3 I3 L3 R3 g => ?_)
  replace hU := ub_n hU (by decide) st_c25 g
  replace hO := ob_n hO (by decide) g
  clear g
  refine Cont.u ?_
  refine wp_putRF (pc' := 37) rfl rfl (by first | (rw [hO.1]) | (show (_ : Nat × Nat).1 = _; rw [hO.1]) | (simp [up1]; done) | (simp [lmK, up1]; done)) (by omega) rfl rfl rfl ?_
  replace hO := ob_r (j := 2) (v := some 25) hO
  replace hU := ub_r (j := 2) (v := some 25) hU (by decide)
  refine wp_aload0 (pc' := 38) rfl rfl ?_
  refine wp_iconst (v := nI 0) (pc' := 39) rfl rfl rfl ?_
  refine wp_putZ (pc' := 42) rfl rfl (by first | (rw [hO.1]) | (show (_ : Nat × Nat).1 = _; rw [hO.1]) | (simp [up1]; done) | (simp [lmK, up1]; done)) (by omega) (by first | exact Or.inl rfl | exact Or.inr rfl) rfl ?_
  replace hO := ob_i (j := 3) (v := (nI 0)) hO
  replace hU := ub_i (j := 3) (v := (nI 0)) hU (by decide)
  refine wp_aload0 (pc' := 43) rfl rfl ?_
  refine wp_bipush (v := nI 12) (pc' := 45) rfl rfl rfl ?_
  refine wp_nwO (w := 12) (pc' := 48) (38) rfl rfl (by decide) (by omega) (by omega) rfl rfl ?_
  replace hU := ub_n hU (by decide) mad_37 (nw_1 (n := 37) (kd := (54, 12)))
  replace hO := ob_n1 (n := 37) (kd := (54, 12)) hO (by decide)
  refine wp_putRF (pc' := 51) rfl rfl (by first | (rw [hO.1]) | (show (_ : Nat × Nat).1 = _; rw [hO.1]) | (simp [up1]; done) | (simp [lmK, up1]; done)) (by omega) rfl rfl rfl ?_
  replace hO := ob_r (j := 4) (v := some 37) hO
  replace hU := ub_r (j := 4) (v := some 37) hU (by decide)
  refine wp_aload0 (pc' := 52) rfl rfl ?_
  refine wp_iconst (v := nI 0) (pc' := 53) rfl rfl rfl ?_
  refine wp_putI (pc' := 56) rfl rfl (by first | (rw [hO.1]) | (show (_ : Nat × Nat).1 = _; rw [hO.1]) | (simp [up1]; done) | (simp [lmK, up1]; done)) (by omega) rfl ?_
  replace hO := ob_i (j := 5) (v := (nI 0)) hO
  replace hU := ub_i (j := 5) (v := (nI 0)) hU (by decide)
  refine wp_aload0 (pc' := 57) rfl rfl ?_
  refine wp_sipush (v := nI 400) (pc' := 60) rfl rfl rfl ?_
  refine wp_nwA (w := 400) (ki := 50) (pc' := 62) (39) rfl rfl (by decide) (by omega) (by omega) rfl rfl ?_
  replace hU := ub_n hU (by decide) mad_38 (nw_1 (n := 38) (kd := (50, 400)))
  replace hO := ob_n1 (n := 38) (kd := (50, 400)) hO (by decide)
  refine wp_putRF (pc' := 65) rfl rfl (by first | (rw [hO.1]) | (show (_ : Nat × Nat).1 = _; rw [hO.1]) | (simp [up1]; done) | (simp [lmK, up1]; done)) (by omega) rfl rfl rfl ?_
  replace hO := ob_r (j := 6) (v := some 38) hO
  replace hU := ub_r (j := 6) (v := some 38) hU (by decide)
  refine wp_aload0 (pc' := 66) rfl rfl ?_
  refine wp_iconst (v := nI 0) (pc' := 67) rfl rfl rfl ?_
  refine wp_putI (pc' := 70) rfl rfl (by first | (rw [hO.1]) | (show (_ : Nat × Nat).1 = _; rw [hO.1]) | (simp [up1]; done) | (simp [lmK, up1]; done)) (by omega) rfl ?_
  replace hO := ob_i (j := 7) (v := (nI 0)) hO
  replace hU := ub_i (j := 7) (v := (nI 0)) hU (by decide)
  refine wp_aload0 (pc' := 71) rfl rfl ?_
  refine wp_iconst (v := (-1)) (pc' := 72) rfl rfl rfl ?_
  refine wp_putI (pc' := 75) rfl rfl (by first | (rw [hO.1]) | (show (_ : Nat × Nat).1 = _; rw [hO.1]) | (simp [up1]; done) | (simp [lmK, up1]; done)) (by omega) rfl ?_
  replace hO := ob_i (j := 8) (v := (-1)) hO
  replace hU := ub_i (j := 8) (v := (-1)) hU (by decide)
  refine wp_aload0 (pc' := 76) rfl rfl ?_
  refine wp_nwN (ci := 4) (w := 3) (pc' := 79) (40) rfl rfl (by omega) (by omega) rfl rfl ?_
  have hO2 := ob_n1 (n := 39) (kd := (4, 0)) hO (by decide)
  refine wp_dup (pc' := 80) rfl rfl rfl ?_
  refine wp_aload0 (pc' := 81) rfl rfl ?_
  refine wp_getRF (b := 38) (pc' := 84) rfl rfl (by rw [hO2.1]) (by rw [hO2.2.2]; rfl) rfl ?_
  refine wp_callI2 (pc' := 87) rfl rfl rfl rfl rfl (by first | (rw [hO.1]) | (show (_ : Nat × Nat).1 = _; rw [hO.1]) | (simp [up1]; done) | (simp [lmK, up1]; done)) rfl rfl ?_
  refine c_rdI (b := 39) (c := 38) (by omega) (by omega) (fun K4 I4 L4 R4 g => ?_)
  replace hU := ub_n hU (by decide) mad_39 g
  replace hO := ob_n hO (by decide) g
  clear g
  refine Cont.u ?_
  refine wp_putRF (pc' := 90) rfl rfl (by first | (rw [hO.1]) | (show (_ : Nat × Nat).1 = _; rw [hO.1]) | (simp [up1]; done) | (simp [lmK, up1]; done)) (by omega) rfl rfl rfl ?_
  replace hO := ob_r (j := 9) (v := some 39) hO
  replace hU := ub_r (j := 9) (v := some 39) hU (by decide)
  refine wp_aload0 (pc' := 91) rfl rfl ?_
  refine wp_nwN (ci := 5) (w := 2) (pc' := 94) (41) rfl rfl (by omega) (by omega) rfl rfl ?_
  have hO2 := ob_n1 (n := 40) (kd := (5, 0)) hO (by decide)
  refine wp_dup (pc' := 95) rfl rfl rfl ?_
  refine wp_aload0 (pc' := 96) rfl rfl ?_
  refine wp_getRF (b := 39) (pc' := 99) rfl rfl (by rw [hO2.1]) (by rw [hO2.2.2]; rfl) rfl ?_
  refine wp_aload0 (pc' := 100) rfl rfl ?_
  refine wp_getRF (b := 13) (pc' := 103) rfl rfl (by rw [hO2.1]) (by rw [hO2.2.2]; rfl) rfl ?_
  refine wp_callI3 (pc' := 106) rfl rfl rfl rfl rfl (by first | (rw [hO.1]) | (show (_ : Nat × Nat).1 = _; rw [hO.1]) | (simp [up1]; done) | (simp [lmK, up1]; done)) rfl rfl ?_
  refine c_bgI (b := 40) (c := 39) (e := 13) (by omega) (by omega) (fun K5 I5 L5 R5 g => ?_)
  replace hU := ub_n hU (by decide) mad_40 g
  replace hO := ob_n hO (by decide) g
  clear g
  refine Cont.u ?_
  refine wp_putRF (pc' := 109) rfl rfl (by first | (rw [hO.1]) | (show (_ : Nat × Nat).1 = _; rw [hO.1]) | (simp [up1]; done) | (simp [lmK, up1]; done)) (by omega) rfl rfl rfl ?_
  replace hO := ob_r (j := 10) (v := some 40) hO
  replace hU := ub_r (j := 10) (v := some 40) hU (by decide)
  refine wp_aload0 (pc' := 110) rfl rfl ?_
  refine wp_nwN (ci := 6) (w := 7) (pc' := 113) (42) rfl rfl (by omega) (by omega) rfl rfl ?_
  have hO2 := ob_n1 (n := 41) (kd := (6, 0)) hO (by decide)
  refine wp_dup (pc' := 114) rfl rfl rfl ?_
  refine wp_aload0 (pc' := 115) rfl rfl ?_
  refine wp_getRF (b := 39) (pc' := 118) rfl rfl (by rw [hO2.1]) (by rw [hO2.2.2]; rfl) rfl ?_
  refine wp_callI2 (pc' := 121) rfl rfl rfl rfl rfl (by first | (rw [hO.1]) | (show (_ : Nat × Nat).1 = _; rw [hO.1]) | (simp [up1]; done) | (simp [lmK, up1]; done)) rfl rfl ?_
  refine c_lwI (b := 41) (c := 39) (by omega) (by omega) (fun K6 I6 L6 R6 g => ?_)
  replace hU := ub_n hU (by decide) mad_41 g
  replace hO := ob_n hO (by decide) g
  clear g
  refine Cont.u ?_
  refine wp_putRF (pc' := 124) rfl rfl (by first | (rw [hO.1]) | (show (_ : Nat × Nat).1 = _; rw [hO.1]) | (simp [up1]; done) | (simp [lmK, up1]; done)) (by omega) rfl rfl rfl ?_
  replace hO := ob_r (j := 11) (v := some 41) hO
  replace hU := ub_r (j := 11) (v := some 41) hU (by decide)
  refine wp_aload0 (pc' := 125) rfl rfl ?_
  refine wp_nwN (ci := 8) (w := 3) (pc' := 128) (47) rfl rfl (by omega) (by omega) rfl rfl ?_
  refine wp_dup (pc' := 129) rfl rfl rfl ?_
  refine wp_callI1 (pc' := 132) rfl rfl rfl rfl rfl (by first | (rw [hO.1]) | (show (_ : Nat × Nat).1 = _; rw [hO.1]) | (simp [up1]; done) | (simp [lmK, up1]; done)) rfl rfl ?_
  refine c_wyI (b := 46) (by omega) (by omega) (fun K7 I7 L7 R7 g => ?_)
  replace hU := ub_n hU (by decide) mad_46 g
  replace hO := ob_n hO (by decide) g
  clear g
  refine Cont.u ?_
  refine wp_putRF (pc' := 135) rfl rfl (by first | (rw [hO.1]) | (show (_ : Nat × Nat).1 = _; rw [hO.1]) | (simp [up1]; done) | (simp [lmK, up1]; done)) (by omega) rfl rfl rfl ?_
  replace hO := ob_r (j := 12) (v := some 46) hO
  replace hU := ub_r (j := 12) (v := some 46) hU (by decide)
  refine wp_aload0 (pc' := 136) rfl rfl ?_
  refine wp_nwN (ci := 9) (w := 3) (pc' := 139) (67) rfl rfl (by omega) (by omega) rfl rfl ?_
  refine wp_dup (pc' := 140) rfl rfl rfl ?_
  refine wp_callI1 (pc' := 143) rfl rfl rfl rfl rfl (by first | (rw [hO.1]) | (show (_ : Nat × Nat).1 = _; rw [hO.1]) | (simp [up1]; done) | (simp [lmK, up1]; done)) rfl rfl ?_
  refine c_tgI (b := 66) (by omega) (by omega) (fun K8 I8 L8 R8 g => ?_)
  replace hU := ub_n hU (by decide) mad_66 g
  replace hO := ob_n hO (by decide) g
  clear g
  refine Cont.u ?_
  refine wp_putRF (pc' := 146) rfl rfl (by first | (rw [hO.1]) | (show (_ : Nat × Nat).1 = _; rw [hO.1]) | (simp [up1]; done) | (simp [lmK, up1]; done)) (by omega) rfl rfl rfl ?_
  replace hO := ob_r (j := 13) (v := some 66) hO
  replace hU := ub_r (j := 13) (v := some 66) hU (by decide)
  refine wp_aload0 (pc' := 147) rfl rfl ?_
  refine wp_nwN (ci := 10) (w := 3) (pc' := 150) (70) rfl rfl (by omega) (by omega) rfl rfl ?_
  have hO2 := ob_n1 (n := 69) (kd := (10, 0)) hO (by decide)
  refine wp_dup (pc' := 151) rfl rfl rfl ?_
  refine wp_aload0 (pc' := 152) rfl rfl ?_
  refine wp_getRF (b := 38) (pc' := 155) rfl rfl (by rw [hO2.1]) (by rw [hO2.2.2]; rfl) rfl ?_
  refine wp_callI2 (pc' := 158) rfl rfl rfl rfl rfl (by first | (rw [hO.1]) | (show (_ : Nat × Nat).1 = _; rw [hO.1]) | (simp [up1]; done) | (simp [lmK, up1]; done)) rfl rfl ?_
  refine c_fgI (b := 69) (c := 38) (by omega) (by omega) (fun K9 I9 L9 R9 g => ?_)
  replace hU := ub_n hU (by decide) mad_69 g
  replace hO := ob_n hO (by decide) g
  clear g
  refine Cont.u ?_
  refine wp_putRF (pc' := 161) rfl rfl (by first | (rw [hO.1]) | (show (_ : Nat × Nat).1 = _; rw [hO.1]) | (simp [up1]; done) | (simp [lmK, up1]; done)) (by omega) rfl rfl rfl ?_
  replace hO := ob_r (j := 14) (v := some 69) hO
  replace hU := ub_r (j := 14) (v := some 69) hU (by decide)
  refine wp_aload0 (pc' := 162) rfl rfl ?_
  refine wp_nwN (ci := 11) (w := 1) (pc' := 165) (173) rfl rfl (by omega) (by omega) rfl rfl ?_
  refine wp_dup (pc' := 166) rfl rfl rfl ?_
  refine wp_callI1 (pc' := 169) rfl rfl rfl rfl rfl (by first | (rw [hO.1]) | (show (_ : Nat × Nat).1 = _; rw [hO.1]) | (simp [up1]; done) | (simp [lmK, up1]; done)) rfl rfl ?_
  refine c_mtI (b := 172) (by omega) (by omega) (fun K10 I10 L10 R10 g => ?_)
  replace hU := ub_n hU (by decide) mad_172 g
  replace hO := ob_n hO (by decide) g
  clear g
  refine Cont.u ?_
  refine wp_putRF (pc' := 172) rfl rfl (by first | (rw [hO.1]) | (show (_ : Nat × Nat).1 = _; rw [hO.1]) | (simp [up1]; done) | (simp [lmK, up1]; done)) (by omega) rfl rfl rfl ?_
  replace hO := ob_r (j := 15) (v := some 172) hO
  replace hU := ub_r (j := 15) (v := some 172) hU (by decide)
  refine wp_iconst (v := nI 0) (pc' := 173) rfl rfl rfl ?_
  refine wp_istore1 (pc' := 174) rfl (by first | rfl | assumption) rfl ?_
  have lp174 : ∀ r (i : Nat) (K1 : Nat → Nat × Nat) (I1 : Mem) (L1 : Nat → Nat → Int64) (R1 : Nat → Nat → Option Nat), i + r = 12 → Upb (174 + 12 * i) K I L R K1 I1 L1 R1 → Ob0 K1 I1 R1 obJ obR → (∀ j, j < i → R1 37 j = some (174 + 12 * j)) → WP (d + 3) F_0 174 [.ref 0, .int (nI i)] [] (K1, I1, L1, R1, 174 + 12 * i, s + 3974 + 471 * i) Q := by
    intro r; induction r with
    | zero =>
      intro i K1 I1 L1 R1 hi hv0 hv1 hv2
      have hi2 : i = 12 := by omega
      subst hi2
      refine wp_iload1 (pc' := 175) rfl rfl ?_
      refine wp_bipush (v := nI 12) (pc' := 177) rfl rfl rfl ?_
      refine wp_icmpgeT rfl (nI_nlt (by omega) (by omega)) ?_
      refine wp_vret rfl rfl ?_
      exact kk _ _ _ _ hv0 hv1 hv2
    | succ r ih =>
      intro i K1 I1 L1 R1 hi hv0 hv1 hv2
      have hlt : i < 12 := by omega
      have hU := hv0
      have hO := hv1
      refine wp_iload1 (pc' := 175) rfl rfl ?_
      refine wp_bipush (v := nI 12) (pc' := 177) rfl rfl rfl ?_
      refine wp_icmpgeF (pc' := 180) rfl (nI_lt (by omega) (by omega)) rfl ?_
      refine wp_aload0 (pc' := 181) rfl rfl ?_
      refine wp_getRF (b := 37) (pc' := 184) rfl rfl (by rw [hO.1]) (by rw [hO.2.2]; rfl) rfl ?_
      refine wp_iload1 (pc' := 185) rfl rfl ?_
      refine wp_nwN (ci := 2) (w := 19) (pc' := 188) (174 + 12 * i + 1) rfl rfl (by omega) (by omega) rfl rfl ?_
      refine wp_dup (pc' := 189) rfl rfl rfl ?_
      refine wp_callI1 (pc' := 192) rfl rfl rfl rfl rfl (by first | (rw [hO.1]) | (show (_ : Nat × Nat).1 = _; rw [hO.1]) | (simp [up1]; done) | (simp [lmK, up1]; done)) rfl rfl ?_
      refine c_stI (b := 174 + 12 * i) (by omega) (by omega) (fun K2 I2 L2 R2 g => ?_)
      have hU2 := ub_n hU (by omega) (st_c hlt) g
      have hO2 := ob_n hO (by omega) g
      refine Cont.u ?_
      refine wp_aast i (w := 12) (pc' := 193) rfl (Option.some.inj ((hU2.1 37 (by decide) (by omega)).1.trans rfl)) (by omega) (by rw [show K2 (174 + 12 * i) = kS 0 from (g.2 0 (by decide)).1]; rfl) (by omega) (by with_reducible rfl) (by omega) (by decide) rfl ?_
      first | refine wp_iinc1 (w := nI 1) (pc' := 196) rfl rfl rfl (by with_reducible exact nI_add _ _) rfl ?_ | refine wp_iinc1 (w := nI 1) (pc' := 196) rfl rfl rfl rfl rfl ?_
      refine wp_goto rfl ?_
      exact WP.cg (ih (i + 1) K2 I2 L2 (up2 R2 37 i (some (174 + 12 * i))) (by omega) (by rw [show 174 + 12 * (i + 1) = 174 + 12 * i + 12 by omega]; exact ub_37 hU2 (by omega)) (ob_37 hO2) (fun j hj => pst_n hv2 (g.1 37 (by omega)).2.2.2 j hj)) (lC1 (lI1 (by rfl) rfl)) rfl (by rw [show 174 + 12 * (i + 1) = 174 + 12 * i + 12 by omega, show s + 3974 + 471 * (i + 1) = s + 3974 + 471 * i + 19 + 452 by omega])
  exact WP.cg (lp174 (12 - (0)) (0) _ _ _ _ (by omega) hU hO (fun j hj => absurd hj (by omega))) (lC1 (lI1 (by rfl) rfl)) rfl (by rfl)
