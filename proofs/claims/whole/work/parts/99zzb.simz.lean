/-! PAIRS: counts -/
theorem tb_bt {x : Int32} {i : Nat} : (tN x).testBit i = btI x i := rfl
theorem bs_dr {D : Int32} {dr : Nat → Nat} (h : ∀ c, c < 25 → (btI D c = true ↔ dr c = 1)) (hd : ∀ c, c < 25 → dr c ≤ 1) : ∀ i, i ≤ 25 → bsN (tN D) i = sNt dr i
  | 0 => fun _ => rfl
  | i + 1 => fun hi => by
    show bsN (tN D) i + (if (tN D).testBit i = true then 1 else 0) = sNt dr i + dr i
    rw [bs_dr h hd i (by omega), tb_bt]
    have h1 := h i (by omega)
    have h2 := hd i (by omega)
    by_cases q : btI D i = true
    · rw [if_pos q, h1.mp q]
    · rw [if_neg q]
      have : ¬ dr i = 1 := fun e => q (h1.mpr e)
      omega
theorem bs_hi {D : Int32} (h : low25 D) : bsN (tN D) 32 = bsN (tN D) 25 := by
  have hz : ∀ k, k ≤ 7 → bsN (tN D) (25 + k) = bsN (tN D) 25 := by
    intro k
    induction k with
    | zero => intro _; rfl
    | succ k ih =>
      intro hk
      show bsN (tN D) (25 + k) + (if (tN D).testBit (25 + k) = true then 1 else 0) = _
      rw [ih (by omega), tb_bt, low25_iff.mp h (25 + k) (by omega) (by omega), if_neg (by decide), Nat.add_zero]
  exact hz 7 (Nat.le_refl _)
theorem pop_dr {w : Nat → Int32} (h : DrB w) : popC (drW w 25) = sumN (fun c => w (9 + 6 * c + 2)) 25 := by
  obtain ⟨dr, hdr⟩ := dr_ex h
  rw [pop_eq, bs_hi (dr_low h), bs_dr (fun c hc => dr_bit h hdr hc) (fun c hc => (hdr c hc).2) 25 (Nat.le_refl _), sum_nat 25 (fun j hj => (hdr j hj).1)]
theorem cnt_eq {K : Nat → Nat × Nat} {R : Nat → Nat → Option Nat} {n : Nat} {I : Mem} {o : LawT} {ro : RwT} {H A : Nat} {l : Int32} (hS : StR K R n I 1 o (I 319) ro H) (hA : I 318 7 = nI A) (hl : l = if I 319 2 = nI 1 then I 319 483 else -1) : countV (vw 1 I) A l 0 = I 319 0 ∧ countV (vw 1 I) A l 1 = I 319 1 ∧ countV (vw 1 I) A l 2 = (if I 319 2 = nI 1 then I 319 483 else -1) ∧ countV (vw 1 I) A l 3 = I 319 3 ∧ countV (vw 1 I) A l 4 = I 319 4 ∧ countV (vw 1 I) A l 5 = I 319 5 ∧ countV (vw 1 I) A l 6 = I 319 6 ∧ countV (vw 1 I) A l 7 = sumN (fun c => I 319 (9 + 6 * c + 0)) 25 ∧ countV (vw 1 I) A l 8 = sumN (fun c => I 319 (9 + 6 * c + 3)) 25 ∧ countV (vw 1 I) A l 9 = sumN ((Sv (I 319)) 8) H ∧ countV (vw 1 I) A l 10 = sumN (fun c => I 319 (9 + 6 * c + 2)) 25 ∧ countV (vw 1 I) A l 11 = I 319 7 ∧ countV (vw 1 I) A l 12 = I 318 7 := by
  obtain ⟨r0, r1, r2, r3, r4, r5, r6, r7⟩ := sim_r0 hS.1
  refine ⟨r0, r7, hl, r2, r3, r4, r5, ?_, ?_, ?_, ?_, ?_, hA.symm⟩
  · exact sum_cg 25 (fun c hc => sim_c1 (b := 1) (I := I) hS.1 hc)
  · exact sum_cg 25 (fun c hc => sim_c3 (b := 1) (I := I) hS.1 hc)
  · show sumN (vw 1 I 8) 6 = _
    rw [sim_row hS.1 (show 8 < 10 by decide), sum_6 hS.2.1]
  · show popC (vw 1 I 0 11) = _
    rw [show vw 1 I 0 11 = drW (I 319) 25 from r1, pop_dr hS.1.2.2.2]
  · obtain ⟨g, -, g2, g3⟩ := log_g hS.1.2.1
    show vw 1 I 10 2 = _
    rw [g3, g2]
theorem o_cnt {N d : Nat} {xs : Nat → Int32} {K : Nat → Nat × Nat} {I : Mem} {L : Nat → Nat → Int64} {R : Nat → Nat → Option Nat} {n s q A H : Nat} {o : LawT} {ro : RwT} {l : Int32} (h : Sim N xs K I L R n) (hS : StR K R n I 1 o (I 319) ro H) (hA : I 318 7 = nI A) (hl : l = if I 319 2 = nI 1 then I 319 483 else -1) (hq : q < 13) : Ok (d + 40) 368 [.ref 318, .int (nI q)] (K, I, L, R, n, s) (DirR N xs n s (countV (vw 1 I) A l q)) := by
  have hT := h.1.1
  obtain ⟨c0, c1, c2, c3, c4, c5, c6, c7, c8, c9, c10, c11, c12⟩ := cnt_eq hS hA hl
  have hq2 : q = 0 ∨ q = 1 ∨ q = 2 ∨ q = 3 ∨ q = 4 ∨ q = 5 ∨ q = 6 ∨ q = 7 ∨ q = 8 ∨ q = 9 ∨ q = 10 ∨ q = 11 ∨ q = 12 := by omega
  rcases hq2 with rfl | rfl | rfl | rfl | rfl | rfl | rfl | rfl | rfl | rfl | rfl | rfl | rfl
  · rw [c0]; exact m_count0 (d := d + 36) hT (dir_v h)
  · rw [c1]; exact m_count1 (d := d + 36) hT (dir_v h)
  · rw [c2]; exact m_count2 (d := d + 36) hT (dir_v h)
  · rw [c3]; exact m_count3 (d := d + 36) hT (dir_v h)
  · rw [c4]; exact m_count4 (d := d + 36) hT (dir_v h)
  · rw [c5]; exact m_count5 (d := d + 36) hT (dir_v h)
  · rw [c6]; exact m_count6 (d := d + 36) hT (dir_v h)
  · rw [c7]; exact m_count7 (d := d + 36) hT (dir_v h)
  · rw [c8]; exact m_count8 (d := d + 36) hT (dir_v h)
  · rw [c9]; exact m_count9 (d := d + 36) hT hS.2.1.1 hS.2.1.2.1 (dir_v h)
  · rw [c10]; exact m_count10 (d := d + 36) hT (dir_v h)
  · rw [c11]; exact m_count11 (d := d + 36) hT (dir_v h)
  · rw [c12]; exact m_count12 (d := d + 36) hT (dir_v h)
theorem o_count {N d : Nat} {xs : Nat → Int32} {K : Nat → Nat × Nat} {I : Mem} {L : Nat → Nat → Int64} {R : Nat → Nat → Option Nat} {n s : Nat} {x : Int32} (h : Sim N xs K I L R n) : Ok (d + 40) 61 [.ref 0, .int x] (K, I, L, R, n, s) (DirC N xs (d + 40) 368 [.ref 318, .int x] n s) := by
  obtain ⟨hB, ⟨o, ro, H, hS⟩, hK, hTp, ⟨p, A, Ss, hP, hA, hPs⟩, h8, h13, h25⟩ := id h
  have hT := hB.1
  have h338 := hT.2.2
  have hw := hS.2.1.1
  have hH6 := hS.2.1.2.1
  have hA5 := hP.2.2.2.1
  have hc : (R 1 18 = none ∧ ¬ I 319 2 = nI 1) ∨ ∃ la m, R 1 18 = some la ∧ (K la).1 = 7 ∧ I la 0 = nI m ∧ I 319 2 = nI 1 ∧ I 319 483 = nI m := by
    obtain ⟨-, -, z3, -, z5, z6, -⟩ := hS
    match o, ro, z3, z5, z6 with
    | none, none, z3, _, z6 => exact Or.inl ⟨z3, z6⟩
    | some (la, m, z, bg), some (m2, b0, b1), z3, z5, z6 =>
      obtain ⟨rfl, -⟩ := z5
      exact Or.inr ⟨la, m2, z3.1, z3.2.1.1, z3.2.2.1.1, z6.1, z6.2.1⟩
  rcases hc with ⟨q1, q2⟩ | ⟨la, m, q1, q2, q3, q4, q5⟩
  · refine c_count_n (d := d + 38) (la := 0) hT (st_r14 hS) hA5 q1 (fun hx => ⟨_, rfl, ?_, mid0 hB⟩) (fun w hw hx => ⟨_, rfl, ?_, mid0 hB⟩)
    · exact m_countX (d := d + 36) hT hx (dir_v h)
    · subst hx
      exact o_cnt h hS hA (by rw [if_neg q2]) hw
  · refine c_count_s (d := d + 38) (la := la) hT (st_r14 hS) hA5 q1 q2 (fun hx => ⟨_, rfl, ?_, mid0 hB⟩) (fun w hw hx => ⟨_, rfl, ?_, mid0 hB⟩)
    · exact m_countX (d := d + 36) hT hx (dir_v h)
    · subst hx
      exact o_cnt h hS hA (by rw [if_pos q4, q3, q5]) hw
