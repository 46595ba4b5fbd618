/-! A STATE COPIED; the log's rows told -/
def cpy (w : Nat) (f g : Nat → Int32) : Nat → Int32 := fun k => if k < w then f k else g k
theorem wp_copyN {d : Nat} {F : Lf} {pc pc' k len : Nat} {z : Int} {ts : List Nat} {ls r : List Value} {Q : Lo → Lm → Prop} {K : Nat → Nat × Nat} {I : Mem} {L : Nat → Nat → Int64} {R : Nat → Nat → Option Nat} {n s a b w u v : Nat} {f g : Nat → Int32}
    (hc : lc_at pc F.2.2.2.2.2 = some ((23, 2, k, z, ts), len)) (hl : F.2.2.2.2.1 k = some (53, u, v)) (hr : Nat.ble r.length 12 = true) (hka : K a = (50, w)) (hkb : K b = (50, w)) (ha : a < n) (hb : b < n) (hab : a ≠ b) (hw : w < 2 ^ 31) (hf : I a = f) (hg : I b = g) (hp : pc + 3 = pc')
    (kk : WP d F pc' ls r (K, upr I b (cpy w f g), L, R, n, s) Q) : WP d F pc ls (.int (nI w) :: .int (nI 0) :: .ref b :: .int (nI 0) :: .ref a :: r) (K, I, L, R, n, s) Q := by
  subst hf; subst hg
  refine wp_copy hc hl hr ?_ hp kk
  have e0 : (nI 0).toNatClampNeg = 0 := by decide
  have h0 : decide (¬ nI 0 < 0) = true := by decide
  have hab2 : Nat.beq a b = false := by
    cases h : Nat.beq a b with
    | false => rfl
    | true => exact absurd (Nat.eq_of_beq_eq_true h) hab
  show (bif Nat.beq (K a).1 50 && Nat.beq (K b).1 50 && Nat.blt a n && Nat.blt b n && !(Nat.beq a b) && decide (¬ nI 0 < 0) && decide (¬ nI 0 < 0) && decide (¬ nI w < 0) && Nat.ble ((nI 0).toNatClampNeg + (nI w).toNatClampNeg) (K a).2 && Nat.ble ((nI 0).toNatClampNeg + (nI w).toNatClampNeg) (K b).2
    then some (K, upr I b (va_cpy (I a) (I b) (nI 0).toNatClampNeg (nI 0).toNatClampNeg (nI w).toNatClampNeg), L, R, n, s) else none) = _
  rw [hka, hkb, Nat.blt_eq.mpr ha, Nat.blt_eq.mpr hb, hab2, h0, e0, nI_clamp hw, decide_eq_true (nI_pos hw)]
  have e1 : Nat.ble (0 + w) w = true := Nat.ble_eq_true_of_le (by omega)
  dsimp only
  rw [e1]
  show some (K, upr I b (va_cpy (I a) (I b) 0 0 w), L, R, n, s) = _
  have e2 : va_cpy (I a) (I b) 0 0 w = cpy w (I a) (I b) := by
    funext j
    unfold va_cpy cpy
    by_cases hj : j < w
    · rw [if_pos hj, if_pos ⟨by omega, by omega⟩]; congr 1; omega
    · rw [if_neg hj, if_neg (by omega)]
  rw [e2]
/-- which places of a state's rows are used -/
def inS (k j : Nat) : Bool := if k = 0 then decide (10 ≤ j ∧ j ≤ 17) else if k < 6 then decide (j < 25) else if k < 10 then decide (j < 6) else if k = 10 then decide (j = 1 ∨ j = 2) else if k = 11 then decide (j < 300) else true
def Nrm (S : Mem) : Prop := ∀ k j, inS k j = false → S k j = nI 0
def cpS (I : Mem) (b b2 : Nat) : Mem := fun a => if b ≤ a ∧ a < b + 12 then I (b2 + (a - b)) else I a
theorem cpS_in {I : Mem} {b b2 k : Nat} (h : k < 12) : cpS I b b2 (b + k) = I (b2 + k) := by
  unfold cpS; rw [if_pos ⟨by omega, by omega⟩]; congr 1; omega
theorem cpS_out {I : Mem} {b b2 a : Nat} (h : a < b ∨ b + 12 ≤ a) : cpS I b b2 a = I a := by
  unfold cpS; rw [if_neg (by omega)]
def lcpM (I : Mem) (b b2 : Nat) : Mem := up2 (up2 (upr I (b + 11) (cpy 300 (I (b2 + 11)) (I (b + 11)))) (b + 10) 1 (I (b2 + 10) 1)) (b + 10) 2 (I (b2 + 10) 2)
def acpM (I : Mem) (b b2 : Nat) : Mem := upr (upr (upr (upr (upr (upr (upr (upr (upr I (b + 1) (cpy 25 (I (b2 + 1)) (I (b + 1)))) (b + 2) (cpy 25 (I (b2 + 2)) (I (b + 2)))) (b + 3) (cpy 25 (I (b2 + 3)) (I (b + 3)))) (b + 4) (cpy 25 (I (b2 + 4)) (I (b + 4)))) (b + 5) (cpy 25 (I (b2 + 5)) (I (b + 5))))
  (b + 6) (cpy 6 (I (b2 + 6)) (I (b + 6)))) (b + 7) (cpy 6 (I (b2 + 7)) (I (b + 7)))) (b + 8) (cpy 6 (I (b2 + 8)) (I (b + 8)))) (b + 9) (cpy 6 (I (b2 + 9)) (I (b + 9)))
def fcpM (I J : Mem) (b b2 : Nat) : Mem := up2 (up2 (up2 (up2 (up2 (up2 (up2 (up2 I b 10 (J b2 10)) b 11 (J b2 11)) b 12 (J b2 12)) b 13 (J b2 13)) b 14 (J b2 14)) b 15 (J b2 15)) b 16 (J b2 16)) b 17 (J b2 17)
theorem cpy_all {w k : Nat} {f g : Nat → Int32} (hf : ∀ j, ¬ j < w → f j = nI 0) (hg : ∀ j, ¬ j < w → g j = nI 0) : cpy w f g = f := by
  funext j; unfold cpy
  by_cases h : j < w
  · rw [if_pos h]
  · rw [if_neg h, hf j h, hg j h]
theorem cp_eq {I : Mem} {b b2 : Nat} (hd : b + 12 ≤ b2 ∨ b2 + 12 ≤ b) (h1 : Nrm (vw b I)) (h2 : Nrm (vw b2 I)) : fcpM (lcpM (acpM I b b2) b b2) I b b2 = cpS I b b2 := by
  have row : ∀ k w, 0 < k → (∀ j, ¬ j < w → inS k j = false) → cpy w (I (b2 + k)) (I (b + k)) = I (b2 + k) := fun k w _ hk => cpy_all (k := k) (fun j hj => h2 k j (hk j hj)) (fun j hj => h1 k j (hk j hj))
  have e1 := row 1 25 (by decide) (fun j hj => by simp [inS, hj])
  have e2 := row 2 25 (by decide) (fun j hj => by simp [inS, hj])
  have e3 := row 3 25 (by decide) (fun j hj => by simp [inS, hj])
  have e4 := row 4 25 (by decide) (fun j hj => by simp [inS, hj])
  have e5 := row 5 25 (by decide) (fun j hj => by simp [inS, hj])
  have e6 := row 6 6 (by decide) (fun j hj => by simp [inS, hj])
  have e7 := row 7 6 (by decide) (fun j hj => by simp [inS, hj])
  have e8 := row 8 6 (by decide) (fun j hj => by simp [inS, hj])
  have e9 := row 9 6 (by decide) (fun j hj => by simp [inS, hj])
  have e11 := row 11 300 (by decide) (fun j hj => by simp [inS, hj])
  funext a
  by_cases ha : b ≤ a ∧ a < b + 12
  · obtain ⟨k, rfl⟩ : ∃ k, a = b + k := ⟨a - b, by omega⟩
    rw [cpS_in (by omega)]
    have hk : k < 12 := by omega
    unfold fcpM lcpM acpM
    match k, hk with
    | 0, _ =>
      funext j
      show up2 _ b 17 _ b j = _
      simp (disch := omega) only [up2_same, up2_ne, upr_ne]
      have n1 := h1 0 j
      have n2 := h2 0 j
      by_cases hj : 10 ≤ j ∧ j ≤ 17
      · obtain ⟨x, rfl⟩ : ∃ x, j = 10 + x := ⟨j - 10, by omega⟩
        have hx : x < 8 := by omega
        match x, hx with
        | 0, _ => rfl
        | 1, _ => rfl
        | 2, _ => rfl
        | 3, _ => rfl
        | 4, _ => rfl
        | 5, _ => rfl
        | 6, _ => rfl
        | 7, _ => rfl
      · rw [if_neg (by omega), if_neg (by omega), if_neg (by omega), if_neg (by omega), if_neg (by omega), if_neg (by omega), if_neg (by omega), if_neg (by omega)]
        exact (n1 (by simp only [inS, if_true]; exact decide_eq_false hj)).trans (n2 (by simp only [inS, if_true]; exact decide_eq_false hj)).symm
    | 1, _ => simp (disch := omega) only [up2_ne, upr_ne, upr_same]; exact e1
    | 2, _ => simp (disch := omega) only [up2_ne, upr_ne, upr_same]; exact e2
    | 3, _ => simp (disch := omega) only [up2_ne, upr_ne, upr_same]; exact e3
    | 4, _ => simp (disch := omega) only [up2_ne, upr_ne, upr_same]; exact e4
    | 5, _ => simp (disch := omega) only [up2_ne, upr_ne, upr_same]; exact e5
    | 6, _ => simp (disch := omega) only [up2_ne, upr_ne, upr_same]; exact e6
    | 7, _ => simp (disch := omega) only [up2_ne, upr_ne, upr_same]; exact e7
    | 8, _ => simp (disch := omega) only [up2_ne, upr_ne, upr_same]; exact e8
    | 9, _ => simp (disch := omega) only [up2_ne, upr_ne, upr_same]; exact e9
    | 10, _ =>
      funext j
      simp (disch := omega) only [up2_ne, upr_ne, up2_same]
      have n1 := h1 10 j
      have n2 := h2 10 j
      by_cases hj2 : j = 2
      · subst hj2; rfl
      · rw [if_neg hj2]
        by_cases hj1 : j = 1
        · subst hj1; rfl
        · rw [if_neg hj1]
          have hin : inS 10 j = false := by simp [inS, hj1, hj2]
          exact (n1 hin).trans (n2 hin).symm
    | 11, _ => simp (disch := omega) only [up2_ne, upr_ne, upr_same]; exact e11
  · rw [cpS_out (by omega)]
    unfold fcpM lcpM acpM
    simp (disch := omega) only [up2_ne, upr_ne]

theorem c_logCopy {d : Nat} {K : Nat → Nat × Nat} {I : Nat → Nat → Int32} {L : Nat → Nat → Int64} {R : Nat → Nat → Option Nat} {n s : Nat} {Q : Lo → Lm → Prop} {b b2 : Nat} (hb : StK K R n b) (hb2 : StK K R n b2) (hd : b + 12 ≤ b2 ∨ b2 + 12 ≤ b) (kk : Q (.inl none) (K, lcpM I b b2, L, R, n, s)) : Ok (d + 1) 25 [.ref (b + 10), .ref (b2 + 10)] (K, I, L, R, n, s) Q := by
  obtain ⟨k0, k1, k2, k3, k4, k5, k6, k7, k8, k9, k10, k11, r0, r1, r2, r3, r4, r5, r6, r7, r8, r9, r10, hbn⟩ := id hb
  obtain ⟨u0, u1, u2, u3, u4, u5, u6, u7, u8, u9, u10, u11, t0, t1, t2, t3, t4, t5, t6, t7, t8, t9, t10, hbn2⟩ := id hb2
  refine Ok.enter (F := F_25) (ls := [.ref (b + 10), .ref (b2 + 10)]) rfl rfl ?_
  refine wp_aload1 (pc' := 1) rfl rfl ?_
  refine wp_getRF (pc' := 4) rfl rfl (by assumption) (by assumption) rfl ?_
  refine wp_iconst (v := nI 0) (pc' := 5) rfl rfl rfl ?_
  refine wp_aload0 (pc' := 6) rfl rfl ?_
  refine wp_getRF (pc' := 9) rfl rfl (by assumption) (by assumption) rfl ?_
  refine wp_iconst (v := nI 0) (pc' := 10) rfl rfl rfl ?_
  refine wp_sipush (v := nI 300) (pc' := 13) rfl rfl rfl ?_
  refine wp_copyN (pc' := 16) rfl rfl rfl (by assumption) (by assumption) (by omega) (by omega) (by omega) (by decide) (by first | (simp (disch := omega) only [upr_ne, up2_ne]; rfl) | simp (disch := omega) only [upr_ne, up2_ne] | rfl) (by first | (simp (disch := omega) only [upr_ne, up2_ne]; rfl) | simp (disch := omega) only [upr_ne, up2_ne] | rfl) rfl ?_
  refine wp_aload0 (pc' := 17) rfl rfl ?_
  refine wp_aload1 (pc' := 18) rfl rfl ?_
  refine wp_getI (pc' := 21) rfl rfl (by assumption) rfl ?_
  simp (disch := omega) only [upr_ne, up2_ne]
  refine wp_putI (pc' := 24) rfl rfl (by assumption) (by omega) rfl ?_
  refine wp_aload0 (pc' := 25) rfl rfl ?_
  refine wp_aload1 (pc' := 26) rfl rfl ?_
  refine wp_getI (pc' := 29) rfl rfl (by assumption) rfl ?_
  simp (disch := omega) only [upr_ne, up2_ne]
  refine wp_putI (pc' := 32) rfl rfl (by assumption) (by omega) rfl ?_
  refine wp_vret rfl rfl ?_
  exact kk
theorem c_copy_n {d : Nat} {K : Nat → Nat × Nat} {I : Nat → Nat → Int32} {L : Nat → Nat → Int64} {R : Nat → Nat → Option Nat} {n s : Nat} {Q : Lo → Lm → Prop} {b b2 la : Nat} (hb : StK K R n b) (hb2 : StK K R n b2) (hd : b + 12 ≤ b2 ∨ b2 + 12 ≤ b) (hr : I b2 14 = 0 ∨ I b2 14 = 1) (hlw : R b2 18 = none) (hn1 : Nrm (vw b I)) (hn2 : Nrm (vw b2 I)) (kk : Q (.inl none) (K, cpS I b b2, L, up2 R b 18 none, n, s)) : Ok (d + 2) 24 [.ref b, .ref b2] (K, I, L, R, n, s) Q := by
  obtain ⟨k0, k1, k2, k3, k4, k5, k6, k7, k8, k9, k10, k11, r0, r1, r2, r3, r4, r5, r6, r7, r8, r9, r10, hbn⟩ := id hb
  obtain ⟨u0, u1, u2, u3, u4, u5, u6, u7, u8, u9, u10, u11, t0, t1, t2, t3, t4, t5, t6, t7, t8, t9, t10, hbn2⟩ := id hb2
  have hJ : lcpM (acpM I b b2) b b2 b2 = I b2 := by simp (disch := omega) only [lcpM, acpM, upr_ne, up2_ne]
  refine Ok.enter (F := F_24) (ls := [.ref b, .ref b2]) rfl rfl ?_
  refine wp_aload1 (pc' := 1) rfl rfl ?_
  refine wp_getRF (pc' := 4) rfl rfl (by assumption) (by assumption) rfl ?_
  refine wp_iconst (v := nI 0) (pc' := 5) rfl rfl rfl ?_
  refine wp_aload0 (pc' := 6) rfl rfl ?_
  refine wp_getRF (pc' := 9) rfl rfl (by assumption) (by assumption) rfl ?_
  refine wp_iconst (v := nI 0) (pc' := 10) rfl rfl rfl ?_
  refine wp_bipush (v := nI 25) (pc' := 12) rfl rfl rfl ?_
  refine wp_copyN (pc' := 15) rfl rfl rfl (by assumption) (by assumption) (by omega) (by omega) (by omega) (by decide) (by first | (simp (disch := omega) only [upr_ne, up2_ne]; rfl) | simp (disch := omega) only [upr_ne, up2_ne] | rfl) (by first | (simp (disch := omega) only [upr_ne, up2_ne]; rfl) | simp (disch := omega) only [upr_ne, up2_ne] | rfl) rfl ?_
  refine wp_aload1 (pc' := 16) rfl rfl ?_
  refine wp_getRF (pc' := 19) rfl rfl (by assumption) (by assumption) rfl ?_
  refine wp_iconst (v := nI 0) (pc' := 20) rfl rfl rfl ?_
  refine wp_aload0 (pc' := 21) rfl rfl ?_
  refine wp_getRF (pc' := 24) rfl rfl (by assumption) (by assumption) rfl ?_
  refine wp_iconst (v := nI 0) (pc' := 25) rfl rfl rfl ?_
  refine wp_bipush (v := nI 25) (pc' := 27) rfl rfl rfl ?_
  refine wp_copyN (pc' := 30) rfl rfl rfl (by assumption) (by assumption) (by omega) (by omega) (by omega) (by decide) (by first | (simp (disch := omega) only [upr_ne, up2_ne]; rfl) | simp (disch := omega) only [upr_ne, up2_ne] | rfl) (by first | (simp (disch := omega) only [upr_ne, up2_ne]; rfl) | simp (disch := omega) only [upr_ne, up2_ne] | rfl) rfl ?_
  refine wp_aload1 (pc' := 31) rfl rfl ?_
  refine wp_getRF (pc' := 34) rfl rfl (by assumption) (by assumption) rfl ?_
  refine wp_iconst (v := nI 0) (pc' := 35) rfl rfl rfl ?_
  refine wp_aload0 (pc' := 36) rfl rfl ?_
  refine wp_getRF (pc' := 39) rfl rfl (by assumption) (by assumption) rfl ?_
  refine wp_iconst (v := nI 0) (pc' := 40) rfl rfl rfl ?_
  refine wp_bipush (v := nI 25) (pc' := 42) rfl rfl rfl ?_
  refine wp_copyN (pc' := 45) rfl rfl rfl (by assumption) (by assumption) (by omega) (by omega) (by omega) (by decide) (by first | (simp (disch := omega) only [upr_ne, up2_ne]; rfl) | simp (disch := omega) only [upr_ne, up2_ne] | rfl) (by first | (simp (disch := omega) only [upr_ne, up2_ne]; rfl) | simp (disch := omega) only [upr_ne, up2_ne] | rfl) rfl ?_
  refine wp_aload1 (pc' := 46) rfl rfl ?_
  refine wp_getRF (pc' := 49) rfl rfl (by assumption) (by assumption) rfl ?_
  refine wp_iconst (v := nI 0) (pc' := 50) rfl rfl rfl ?_
  refine wp_aload0 (pc' := 51) rfl rfl ?_
  refine wp_getRF (pc' := 54) rfl rfl (by assumption) (by assumption) rfl ?_
  refine wp_iconst (v := nI 0) (pc' := 55) rfl rfl rfl ?_
  refine wp_bipush (v := nI 25) (pc' := 57) rfl rfl rfl ?_
  refine wp_copyN (pc' := 60) rfl rfl rfl (by assumption) (by assumption) (by omega) (by omega) (by omega) (by decide) (by first | (simp (disch := omega) only [upr_ne, up2_ne]; rfl) | simp (disch := omega) only [upr_ne, up2_ne] | rfl) (by first | (simp (disch := omega) only [upr_ne, up2_ne]; rfl) | simp (disch := omega) only [upr_ne, up2_ne] | rfl) rfl ?_
  refine wp_aload1 (pc' := 61) rfl rfl ?_
  refine wp_getRF (pc' := 64) rfl rfl (by assumption) (by assumption) rfl ?_
  refine wp_iconst (v := nI 0) (pc' := 65) rfl rfl rfl ?_
  refine wp_aload0 (pc' := 66) rfl rfl ?_
  refine wp_getRF (pc' := 69) rfl rfl (by assumption) (by assumption) rfl ?_
  refine wp_iconst (v := nI 0) (pc' := 70) rfl rfl rfl ?_
  refine wp_bipush (v := nI 25) (pc' := 72) rfl rfl rfl ?_
  refine wp_copyN (pc' := 75) rfl rfl rfl (by assumption) (by assumption) (by omega) (by omega) (by omega) (by decide) (by first | (simp (disch := omega) only [upr_ne, up2_ne]; rfl) | simp (disch := omega) only [upr_ne, up2_ne] | rfl) (by first | (simp (disch := omega) only [upr_ne, up2_ne]; rfl) | simp (disch := omega) only [upr_ne, up2_ne] | rfl) rfl ?_
  refine wp_aload1 (pc' := 76) rfl rfl ?_
  refine wp_getRF (pc' := 79) rfl rfl (by assumption) (by assumption) rfl ?_
  refine wp_iconst (v := nI 0) (pc' := 80) rfl rfl rfl ?_
  refine wp_aload0 (pc' := 81) rfl rfl ?_
  refine wp_getRF (pc' := 84) rfl rfl (by assumption) (by assumption) rfl ?_
  refine wp_iconst (v := nI 0) (pc' := 85) rfl rfl rfl ?_
  refine wp_bipush (v := nI 6) (pc' := 87) rfl rfl rfl ?_
  refine wp_copyN (pc' := 90) rfl rfl rfl (by assumption) (by assumption) (by omega) (by omega) (by omega) (by decide) (by first | (simp (disch := omega) only [upr_ne, up2_ne]; rfl) | simp (disch := omega) only [upr_ne, up2_ne] | rfl) (by first | (simp (disch := omega) only [upr_ne, up2_ne]; rfl) | simp (disch := omega) only [upr_ne, up2_ne] | rfl) rfl ?_
  refine wp_aload1 (pc' := 91) rfl rfl ?_
  refine wp_getRF (pc' := 94) rfl rfl (by assumption) (by assumption) rfl ?_
  refine wp_iconst (v := nI 0) (pc' := 95) rfl rfl rfl ?_
  refine wp_aload0 (pc' := 96) rfl rfl ?_
  refine wp_getRF (pc' := 99) rfl rfl (by assumption) (by assumption) rfl ?_
  refine wp_iconst (v := nI 0) (pc' := 100) rfl rfl rfl ?_
  refine wp_bipush (v := nI 6) (pc' := 102) rfl rfl rfl ?_
  refine wp_copyN (pc' := 105) rfl rfl rfl (by assumption) (by assumption) (by omega) (by omega) (by omega) (by decide) (by first | (simp (disch := omega) only [upr_ne, up2_ne]; rfl) | simp (disch := omega) only [upr_ne, up2_ne] | rfl) (by first | (simp (disch := omega) only [upr_ne, up2_ne]; rfl) | simp (disch := omega) only [upr_ne, up2_ne] | rfl) rfl ?_
  refine wp_aload1 (pc' := 106) rfl rfl ?_
  refine wp_getRF (pc' := 109) rfl rfl (by assumption) (by assumption) rfl ?_
  refine wp_iconst (v := nI 0) (pc' := 110) rfl rfl rfl ?_
  refine wp_aload0 (pc' := 111) rfl rfl ?_
  refine wp_getRF (pc' := 114) rfl rfl (by assumption) (by assumption) rfl ?_
  refine wp_iconst (v := nI 0) (pc' := 115) rfl rfl rfl ?_
  refine wp_bipush (v := nI 6) (pc' := 117) rfl rfl rfl ?_
  refine wp_copyN (pc' := 120) rfl rfl rfl (by assumption) (by assumption) (by omega) (by omega) (by omega) (by decide) (by first | (simp (disch := omega) only [upr_ne, up2_ne]; rfl) | simp (disch := omega) only [upr_ne, up2_ne] | rfl) (by first | (simp (disch := omega) only [upr_ne, up2_ne]; rfl) | simp (disch := omega) only [upr_ne, up2_ne] | rfl) rfl ?_
  refine wp_aload1 (pc' := 121) rfl rfl ?_
  refine wp_getRF (pc' := 124) rfl rfl (by assumption) (by assumption) rfl ?_
  refine wp_iconst (v := nI 0) (pc' := 125) rfl rfl rfl ?_
  refine wp_aload0 (pc' := 126) rfl rfl ?_
  refine wp_getRF (pc' := 129) rfl rfl (by assumption) (by assumption) rfl ?_
  refine wp_iconst (v := nI 0) (pc' := 130) rfl rfl rfl ?_
  refine wp_bipush (v := nI 6) (pc' := 132) rfl rfl rfl ?_
  refine wp_copyN (pc' := 135) rfl rfl rfl (by assumption) (by assumption) (by omega) (by omega) (by omega) (by decide) (by first | (simp (disch := omega) only [upr_ne, up2_ne]; rfl) | simp (disch := omega) only [upr_ne, up2_ne] | rfl) (by first | (simp (disch := omega) only [upr_ne, up2_ne]; rfl) | simp (disch := omega) only [upr_ne, up2_ne] | rfl) rfl ?_
  refine wp_aload0 (pc' := 136) rfl rfl ?_
  refine wp_getRF (pc' := 139) rfl rfl (by assumption) (by assumption) rfl ?_
  refine wp_aload1 (pc' := 140) rfl rfl ?_
  refine wp_getRF (pc' := 143) rfl rfl (by assumption) (by assumption) rfl ?_
  change WP _ _ _ _ _ (K, acpM I b b2, L, R, n, s) _
  refine wp_callV2 (pc' := 146) rfl rfl rfl rfl rfl (by assumption) rfl rfl ?_
  refine c_logCopy hb hb2 hd ?_
  refine Cont.u ?_
  refine wp_aload0 (pc' := 147) rfl rfl ?_
  refine wp_aload1 (pc' := 148) rfl rfl ?_
  refine wp_getI (pc' := 151) rfl rfl (by assumption) rfl ?_
  try simp (disch := omega) only [up2_ne]
  rw [hJ]
  refine wp_putI (pc' := 154) rfl rfl (by assumption) (by omega) rfl ?_
  refine wp_aload0 (pc' := 155) rfl rfl ?_
  refine wp_aload1 (pc' := 156) rfl rfl ?_
  refine wp_getI (pc' := 159) rfl rfl (by assumption) rfl ?_
  try simp (disch := omega) only [up2_ne]
  rw [hJ]
  refine wp_putI (pc' := 162) rfl rfl (by assumption) (by omega) rfl ?_
  refine wp_aload0 (pc' := 163) rfl rfl ?_
  refine wp_aload1 (pc' := 164) rfl rfl ?_
  refine wp_getI (pc' := 167) rfl rfl (by assumption) rfl ?_
  try simp (disch := omega) only [up2_ne]
  rw [hJ]
  refine wp_putI (pc' := 170) rfl rfl (by assumption) (by omega) rfl ?_
  refine wp_aload0 (pc' := 171) rfl rfl ?_
  refine wp_aload1 (pc' := 172) rfl rfl ?_
  refine wp_getI (pc' := 175) rfl rfl (by assumption) rfl ?_
  try simp (disch := omega) only [up2_ne]
  rw [hJ]
  refine wp_putI (pc' := 178) rfl rfl (by assumption) (by omega) rfl ?_
  refine wp_aload0 (pc' := 179) rfl rfl ?_
  refine wp_aload1 (pc' := 180) rfl rfl ?_
  refine wp_getZ (pc' := 183) rfl rfl (by assumption) rfl ?_
  try simp (disch := omega) only [up2_ne]
  rw [hJ]
  refine wp_putZ (pc' := 186) rfl rfl (by assumption) (by omega) (by assumption) rfl ?_
  refine wp_aload0 (pc' := 187) rfl rfl ?_
  refine wp_aload1 (pc' := 188) rfl rfl ?_
  refine wp_getI (pc' := 191) rfl rfl (by assumption) rfl ?_
  try simp (disch := omega) only [up2_ne]
  rw [hJ]
  refine wp_putI (pc' := 194) rfl rfl (by assumption) (by omega) rfl ?_
  refine wp_aload0 (pc' := 195) rfl rfl ?_
  refine wp_aload1 (pc' := 196) rfl rfl ?_
  refine wp_getI (pc' := 199) rfl rfl (by assumption) rfl ?_
  try simp (disch := omega) only [up2_ne]
  rw [hJ]
  refine wp_putI (pc' := 202) rfl rfl (by assumption) (by omega) rfl ?_
  refine wp_aload0 (pc' := 203) rfl rfl ?_
  refine wp_aload1 (pc' := 204) rfl rfl ?_
  refine wp_getI (pc' := 207) rfl rfl (by assumption) rfl ?_
  try simp (disch := omega) only [up2_ne]
  rw [hJ]
  refine wp_putI (pc' := 210) rfl rfl (by assumption) (by omega) rfl ?_
  refine wp_aload0 (pc' := 211) rfl rfl ?_
  refine wp_aload1 (pc' := 212) rfl rfl ?_
  first | refine wp_getR (pc' := 215) rfl rfl (by assumption) (by assumption) rfl ?_ | refine wp_getRN (pc' := 215) rfl rfl (by assumption) (by assumption) rfl ?_
  refine wp_putN (pc' := 218) rfl rfl (by assumption) (by omega) rfl ?_
  refine wp_vret rfl rfl ?_
  exact Qu kk (by first | rfl | exact mI1 (cp_eq hd hn1 hn2))
theorem c_copy_s {d : Nat} {K : Nat → Nat × Nat} {I : Nat → Nat → Int32} {L : Nat → Nat → Int64} {R : Nat → Nat → Option Nat} {n s : Nat} {Q : Lo → Lm → Prop} {b b2 la : Nat} (hb : StK K R n b) (hb2 : StK K R n b2) (hd : b + 12 ≤ b2 ∨ b2 + 12 ≤ b) (hr : I b2 14 = 0 ∨ I b2 14 = 1) (hlw : R b2 18 = some la) (hn1 : Nrm (vw b I)) (hn2 : Nrm (vw b2 I)) (kk : Q (.inl none) (K, cpS I b b2, L, up2 R b 18 (some la), n, s)) : Ok (d + 2) 24 [.ref b, .ref b2] (K, I, L, R, n, s) Q := by
  obtain ⟨k0, k1, k2, k3, k4, k5, k6, k7, k8, k9, k10, k11, r0, r1, r2, r3, r4, r5, r6, r7, r8, r9, r10, hbn⟩ := id hb
  obtain ⟨u0, u1, u2, u3, u4, u5, u6, u7, u8, u9, u10, u11, t0, t1, t2, t3, t4, t5, t6, t7, t8, t9, t10, hbn2⟩ := id hb2
  have hJ : lcpM (acpM I b b2) b b2 b2 = I b2 := by simp (disch := omega) only [lcpM, acpM, upr_ne, up2_ne]
  refine Ok.enter (F := F_24) (ls := [.ref b, .ref b2]) rfl rfl ?_
  refine wp_aload1 (pc' := 1) rfl rfl ?_
  refine wp_getRF (pc' := 4) rfl rfl (by assumption) (by assumption) rfl ?_
  refine wp_iconst (v := nI 0) (pc' := 5) rfl rfl rfl ?_
  refine wp_aload0 (pc' := 6) rfl rfl ?_
  refine wp_getRF (pc' := 9) rfl rfl (by assumption) (by assumption) rfl ?_
  refine wp_iconst (v := nI 0) (pc' := 10) rfl rfl rfl ?_
  refine wp_bipush (v := nI 25) (pc' := 12) rfl rfl rfl ?_
  refine wp_copyN (pc' := 15) rfl rfl rfl (by assumption) (by assumption) (by omega) (by omega) (by omega) (by decide) (by first | (simp (disch := omega) only [upr_ne, up2_ne]; rfl) | simp (disch := omega) only [upr_ne, up2_ne] | rfl) (by first | (simp (disch := omega) only [upr_ne, up2_ne]; rfl) | simp (disch := omega) only [upr_ne, up2_ne] | rfl) rfl ?_
  refine wp_aload1 (pc' := 16) rfl rfl ?_
  refine wp_getRF (pc' := 19) rfl rfl (by assumption) (by assumption) rfl ?_
  refine wp_iconst (v := nI 0) (pc' := 20) rfl rfl rfl ?_
  refine wp_aload0 (pc' := 21) rfl rfl ?_
  refine wp_getRF (pc' := 24) rfl rfl (by assumption) (by assumption) rfl ?_
  refine wp_iconst (v := nI 0) (pc' := 25) rfl rfl rfl ?_
  refine wp_bipush (v := nI 25) (pc' := 27) rfl rfl rfl ?_
  refine wp_copyN (pc' := 30) rfl rfl rfl (by assumption) (by assumption) (by omega) (by omega) (by omega) (by decide) (by first | (simp (disch := omega) only [upr_ne, up2_ne]; rfl) | simp (disch := omega) only [upr_ne, up2_ne] | rfl) (by first | (simp (disch := omega) only [upr_ne, up2_ne]; rfl) | simp (disch := omega) only [upr_ne, up2_ne] | rfl) rfl ?_
  refine wp_aload1 (pc' := 31) rfl rfl ?_
  refine wp_getRF (pc' := 34) rfl rfl (by assumption) (by assumption) rfl ?_
  refine wp_iconst (v := nI 0) (pc' := 35) rfl rfl rfl ?_
  refine wp_aload0 (pc' := 36) rfl rfl ?_
  refine wp_getRF (pc' := 39) rfl rfl (by assumption) (by assumption) rfl ?_
  refine wp_iconst (v := nI 0) (pc' := 40) rfl rfl rfl ?_
  refine wp_bipush (v := nI 25) (pc' := 42) rfl rfl rfl ?_
  refine wp_copyN (pc' := 45) rfl rfl rfl (by assumption) (by assumption) (by omega) (by omega) (by omega) (by decide) (by first | (simp (disch := omega) only [upr_ne, up2_ne]; rfl) | simp (disch := omega) only [upr_ne, up2_ne] | rfl) (by first | (simp (disch := omega) only [upr_ne, up2_ne]; rfl) | simp (disch := omega) only [upr_ne, up2_ne] | rfl) rfl ?_
  refine wp_aload1 (pc' := 46) rfl rfl ?_
  refine wp_getRF (pc' := 49) rfl rfl (by assumption) (by assumption) rfl ?_
  refine wp_iconst (v := nI 0) (pc' := 50) rfl rfl rfl ?_
  refine wp_aload0 (pc' := 51) rfl rfl ?_
  refine wp_getRF (pc' := 54) rfl rfl (by assumption) (by assumption) rfl ?_
  refine wp_iconst (v := nI 0) (pc' := 55) rfl rfl rfl ?_
  refine wp_bipush (v := nI 25) (pc' := 57) rfl rfl rfl ?_
  refine wp_copyN (pc' := 60) rfl rfl rfl (by assumption) (by assumption) (by omega) (by omega) (by omega) (by decide) (by first | (simp (disch := omega) only [upr_ne, up2_ne]; rfl) | simp (disch := omega) only [upr_ne, up2_ne] | rfl) (by first | (simp (disch := omega) only [upr_ne, up2_ne]; rfl) | simp (disch := omega) only [upr_ne, up2_ne] | rfl) rfl ?_
  refine wp_aload1 (pc' := 61) rfl rfl ?_
  refine wp_getRF (pc' := 64) rfl rfl (by assumption) (by assumption) rfl ?_
  refine wp_iconst (v := nI 0) (pc' := 65) rfl rfl rfl ?_
  refine wp_aload0 (pc' := 66) rfl rfl ?_
  refine wp_getRF (pc' := 69) rfl rfl (by assumption) (by assumption) rfl ?_
  refine wp_iconst (v := nI 0) (pc' := 70) rfl rfl rfl ?_
  refine wp_bipush (v := nI 25) (pc' := 72) rfl rfl rfl ?_
  refine wp_copyN (pc' := 75) rfl rfl rfl (by assumption) (by assumption) (by omega) (by omega) (by omega) (by decide) (by first | (simp (disch := omega) only [upr_ne, up2_ne]; rfl) | simp (disch := omega) only [upr_ne, up2_ne] | rfl) (by first | (simp (disch := omega) only [upr_ne, up2_ne]; rfl) | simp (disch := omega) only [upr_ne, up2_ne] | rfl) rfl ?_
  refine wp_aload1 (pc' := 76) rfl rfl ?_
  refine wp_getRF (pc' := 79) rfl rfl (by assumption) (by assumption) rfl ?_
  refine wp_iconst (v := nI 0) (pc' := 80) rfl rfl rfl ?_
  refine wp_aload0 (pc' := 81) rfl rfl ?_
  refine wp_getRF (pc' := 84) rfl rfl (by assumption) (by assumption) rfl ?_
  refine wp_iconst (v := nI 0) (pc' := 85) rfl rfl rfl ?_
  refine wp_bipush (v := nI 6) (pc' := 87) rfl rfl rfl ?_
  refine wp_copyN (pc' := 90) rfl rfl rfl (by assumption) (by assumption) (by omega) (by omega) (by omega) (by decide) (by first | (simp (disch := omega) only [upr_ne, up2_ne]; rfl) | simp (disch := omega) only [upr_ne, up2_ne] | rfl) (by first | (simp (disch := omega) only [upr_ne, up2_ne]; rfl) | simp (disch := omega) only [upr_ne, up2_ne] | rfl) rfl ?_
  refine wp_aload1 (pc' := 91) rfl rfl ?_
  refine wp_getRF (pc' := 94) rfl rfl (by assumption) (by assumption) rfl ?_
  refine wp_iconst (v := nI 0) (pc' := 95) rfl rfl rfl ?_
  refine wp_aload0 (pc' := 96) rfl rfl ?_
  refine wp_getRF (pc' := 99) rfl rfl (by assumption) (by assumption) rfl ?_
  refine wp_iconst (v := nI 0) (pc' := 100) rfl rfl rfl ?_
  refine wp_bipush (v := nI 6) (pc' := 102) rfl rfl rfl ?_
  refine wp_copyN (pc' := 105) rfl rfl rfl (by assumption) (by assumption) (by omega) (by omega) (by omega) (by decide) (by first | (simp (disch := omega) only [upr_ne, up2_ne]; rfl) | simp (disch := omega) only [upr_ne, up2_ne] | rfl) (by first | (simp (disch := omega) only [upr_ne, up2_ne]; rfl) | simp (disch := omega) only [upr_ne, up2_ne] | rfl) rfl ?_
  refine wp_aload1 (pc' := 106) rfl rfl ?_
  refine wp_getRF (pc' := 109) rfl rfl (by assumption) (by assumption) rfl ?_
  refine wp_iconst (v := nI 0) (pc' := 110) rfl rfl rfl ?_
  refine wp_aload0 (pc' := 111) rfl rfl ?_
  refine wp_getRF (pc' := 114) rfl rfl (by assumption) (by assumption) rfl ?_
  refine wp_iconst (v := nI 0) (pc' := 115) rfl rfl rfl ?_
  refine wp_bipush (v := nI 6) (pc' := 117) rfl rfl rfl ?_
  refine wp_copyN (pc' := 120) rfl rfl rfl (by assumption) (by assumption) (by omega) (by omega) (by omega) (by decide) (by first | (simp (disch := omega) only [upr_ne, up2_ne]; rfl) | simp (disch := omega) only [upr_ne, up2_ne] | rfl) (by first | (simp (disch := omega) only [upr_ne, up2_ne]; rfl) | simp (disch := omega) only [upr_ne, up2_ne] | rfl) rfl ?_
  refine wp_aload1 (pc' := 121) rfl rfl ?_
  refine wp_getRF (pc' := 124) rfl rfl (by assumption) (by assumption) rfl ?_
  refine wp_iconst (v := nI 0) (pc' := 125) rfl rfl rfl ?_
  refine wp_aload0 (pc' := 126) rfl rfl ?_
  refine wp_getRF (pc' := 129) rfl rfl (by assumption) (by assumption) rfl ?_
  refine wp_iconst (v := nI 0) (pc' := 130) rfl rfl rfl ?_
  refine wp_bipush (v := nI 6) (pc' := 132) rfl rfl rfl ?_
  refine wp_copyN (pc' := 135) rfl rfl rfl (by assumption) (by assumption) (by omega) (by omega) (by omega) (by decide) (by first | (simp (disch := omega) only [upr_ne, up2_ne]; rfl) | simp (disch := omega) only [upr_ne, up2_ne] | rfl) (by first | (simp (disch := omega) only [upr_ne, up2_ne]; rfl) | simp (disch := omega) only [upr_ne, up2_ne] | rfl) rfl ?_
  refine wp_aload0 (pc' := 136) rfl rfl ?_
  refine wp_getRF (pc' := 139) rfl rfl (by assumption) (by assumption) rfl ?_
  refine wp_aload1 (pc' := 140) rfl rfl ?_
  refine wp_getRF (pc' := 143) rfl rfl (by assumption) (by assumption) rfl ?_
  change WP _ _ _ _ _ (K, acpM I b b2, L, R, n, s) _
  refine wp_callV2 (pc' := 146) rfl rfl rfl rfl rfl (by assumption) rfl rfl ?_
  refine c_logCopy hb hb2 hd ?_
  refine Cont.u ?_
  refine wp_aload0 (pc' := 147) rfl rfl ?_
  refine wp_aload1 (pc' := 148) rfl rfl ?_
  refine wp_getI (pc' := 151) rfl rfl (by assumption) rfl ?_
  try simp (disch := omega) only [up2_ne]
  rw [hJ]
  refine wp_putI (pc' := 154) rfl rfl (by assumption) (by omega) rfl ?_
  refine wp_aload0 (pc' := 155) rfl rfl ?_
  refine wp_aload1 (pc' := 156) rfl rfl ?_
  refine wp_getI (pc' := 159) rfl rfl (by assumption) rfl ?_
  try simp (disch := omega) only [up2_ne]
  rw [hJ]
  refine wp_putI (pc' := 162) rfl rfl (by assumption) (by omega) rfl ?_
  refine wp_aload0 (pc' := 163) rfl rfl ?_
  refine wp_aload1 (pc' := 164) rfl rfl ?_
  refine wp_getI (pc' := 167) rfl rfl (by assumption) rfl ?_
  try simp (disch := omega) only [up2_ne]
  rw [hJ]
  refine wp_putI (pc' := 170) rfl rfl (by assumption) (by omega) rfl ?_
  refine wp_aload0 (pc' := 171) rfl rfl ?_
  refine wp_aload1 (pc' := 172) rfl rfl ?_
  refine wp_getI (pc' := 175) rfl rfl (by assumption) rfl ?_
  try simp (disch := omega) only [up2_ne]
  rw [hJ]
  refine wp_putI (pc' := 178) rfl rfl (by assumption) (by omega) rfl ?_
  refine wp_aload0 (pc' := 179) rfl rfl ?_
  refine wp_aload1 (pc' := 180) rfl rfl ?_
  refine wp_getZ (pc' := 183) rfl rfl (by assumption) rfl ?_
  try simp (disch := omega) only [up2_ne]
  rw [hJ]
  refine wp_putZ (pc' := 186) rfl rfl (by assumption) (by omega) (by assumption) rfl ?_
  refine wp_aload0 (pc' := 187) rfl rfl ?_
  refine wp_aload1 (pc' := 188) rfl rfl ?_
  refine wp_getI (pc' := 191) rfl rfl (by assumption) rfl ?_
  try simp (disch := omega) only [up2_ne]
  rw [hJ]
  refine wp_putI (pc' := 194) rfl rfl (by assumption) (by omega) rfl ?_
  refine wp_aload0 (pc' := 195) rfl rfl ?_
  refine wp_aload1 (pc' := 196) rfl rfl ?_
  refine wp_getI (pc' := 199) rfl rfl (by assumption) rfl ?_
  try simp (disch := omega) only [up2_ne]
  rw [hJ]
  refine wp_putI (pc' := 202) rfl rfl (by assumption) (by omega) rfl ?_
  refine wp_aload0 (pc' := 203) rfl rfl ?_
  refine wp_aload1 (pc' := 204) rfl rfl ?_
  refine wp_getI (pc' := 207) rfl rfl (by assumption) rfl ?_
  try simp (disch := omega) only [up2_ne]
  rw [hJ]
  refine wp_putI (pc' := 210) rfl rfl (by assumption) (by omega) rfl ?_
  refine wp_aload0 (pc' := 211) rfl rfl ?_
  refine wp_aload1 (pc' := 212) rfl rfl ?_
  first | refine wp_getR (pc' := 215) rfl rfl (by assumption) (by assumption) rfl ?_ | refine wp_getRN (pc' := 215) rfl rfl (by assumption) (by assumption) rfl ?_
  refine wp_putR (pc' := 218) rfl rfl (by assumption) (by omega) rfl ?_
  refine wp_vret rfl rfl ?_
  exact Qu kk (by first | rfl | exact mI1 (cp_eq hd hn1 hn2))
theorem c_copy {d : Nat} {K : Nat → Nat × Nat} {I : Mem} {L : Nat → Nat → Int64} {R : Nat → Nat → Option Nat} {n s : Nat} {Q : Lo → Lm → Prop} {b b2 : Nat} (hb : StK K R n b) (hb2 : StK K R n b2) (hd : b + 12 ≤ b2 ∨ b2 + 12 ≤ b) (hr : I b2 14 = 0 ∨ I b2 14 = 1) (hn1 : Nrm (vw b I)) (hn2 : Nrm (vw b2 I)) (kk : Q (.inl none) (K, cpS I b b2, L, up2 R b 18 (R b2 18), n, s)) : Ok (d + 2) 24 [.ref b, .ref b2] (K, I, L, R, n, s) Q := by
  cases e : R b2 18 with
  | none => rw [e] at kk; exact c_copy_n (la := 0) hb hb2 hd hr e hn1 hn2 kk
  | some la => rw [e] at kk; exact c_copy_s hb hb2 hd hr e hn1 hn2 kk
def toldF (I : Mem) (b : Nat) (x : Int32) (w : Nat) : Int32 := if x < nI 0 then -1 else if x < I (b + 10) 2 then I (b + 11) ((tn (I (b + 10) 1) + 60 - 1 - tn x) % 60 * 5 + w) else -1

theorem c_told {d : Nat} {K : Nat → Nat × Nat} {I : Nat → Nat → Int32} {L : Nat → Nat → Int64} {R : Nat → Nat → Option Nat} {n s : Nat} {Q : Lo → Lm → Prop} {b w q rr : Nat} {x : Int32} (hb : StK K R n b) (hw : w < 5) (hq : I (b + 10) 1 = nI q) (hq60 : q < 60) (hrr : I (b + 10) 2 = nI rr) (hr60 : rr ≤ 60) (kk : Q (.inl (some (.int (toldF I b x w)))) (K, I, L, R, n, s)) : Ok (d + 1) 207 [.ref (b + 10), .int x, .int (nI w)] (K, I, L, R, n, s) Q := by
  obtain ⟨k0, k1, k2, k3, k4, k5, k6, k7, k8, k9, k10, k11, r0, r1, r2, r3, r4, r5, r6, r7, r8, r9, r10, hbn⟩ := id hb
  refine Ok.enter (F := F_207) (ls := [.ref (b + 10), .int x, .int (nI w), lDead]) rfl rfl ?_
  refine wp_iload1 (pc' := 1) rfl rfl ?_
  refine wp_iflt (pc' := 4) rfl rfl ?_ ?_
  · intro h1
    refine wp_iconst (v := (-1)) (pc' := 13) rfl rfl rfl ?_
    refine wp_iret rfl rfl rfl ?_
    exact Qv kk (by first | (simp only [toldF, *, ↓reduceIte]; done) | (unfold toldF; rw [if_neg h1, if_neg h9]) | (unfold toldF; rw [if_neg h1, hrr, if_pos (nI_lt h9 (by omega)), hq, tn_nI (by omega), tn_nI (by omega)])) rfl
  · intro h1
    refine wp_iload1 (pc' := 5) rfl rfl ?_
    refine wp_aload0 (pc' := 6) rfl rfl ?_
    refine wp_getI (pc' := 9) rfl rfl (by assumption) rfl ?_
    refine wp_icmplt (pc' := 12) rfl rfl ?_ ?_
    · intro h9
      obtain ⟨a, ha, rfl⟩ := nI_of (show ¬ x < 0 from h1)
      rw [hrr] at h9
      have h9 := (nI_ltI (by omega) (by omega)).mp h9
      refine wp_aload0 (pc' := 15) rfl rfl ?_
      refine wp_getI (pc' := 18) rfl rfl (by assumption) rfl ?_
      rw [hq]
      refine wp_bipush (v := nI 60) (pc' := 20) rfl rfl rfl ?_
      first | refine wp_iaddN (pc' := 21) rfl (by with_reducible rfl) (by with_reducible rfl) rfl ?_ | refine wp_iadd (pc' := 21) rfl rfl ?_
      refine wp_iconst (v := nI 1) (pc' := 22) rfl rfl rfl ?_
      first | refine wp_isubN (pc' := 23) rfl (by with_reducible rfl) (by with_reducible rfl) (by omega) rfl ?_ | refine wp_isub (pc' := 23) rfl rfl ?_
      refine wp_iload1 (pc' := 24) rfl rfl ?_
      first | refine wp_isubN (pc' := 25) rfl (by with_reducible rfl) (by with_reducible rfl) (by omega) rfl ?_ | refine wp_isub (pc' := 25) rfl rfl ?_
      refine wp_bipush (v := nI 60) (pc' := 27) rfl rfl rfl ?_
      first | refine wp_iremN (pc' := 28) rfl (by with_reducible rfl) (by with_reducible rfl) (by omega) (by omega) (by omega) rfl ?_ | refine wp_irem (pc' := 28) rfl (by decide) rfl ?_
      refine wp_istore3 (pc' := 29) rfl (by first | rfl | assumption) rfl ?_
      refine wp_aload0 (pc' := 30) rfl rfl ?_
      refine wp_getRF (pc' := 33) rfl rfl (by assumption) (by assumption) rfl ?_
      refine wp_iload3 (pc' := 34) rfl rfl ?_
      refine wp_iconst (v := nI 5) (pc' := 35) rfl rfl rfl ?_
      first | refine wp_imulN (pc' := 36) rfl (by with_reducible rfl) (by with_reducible rfl) rfl ?_ | refine wp_imul (pc' := 36) rfl rfl ?_
      refine wp_iload2 (pc' := 37) rfl rfl ?_
      first | refine wp_iaddN (pc' := 38) rfl (by with_reducible rfl) (by with_reducible rfl) rfl ?_ | refine wp_iadd (pc' := 38) rfl rfl ?_
      refine wp_iald _ (pc' := 39) rfl (by assumption) (by with_reducible rfl) (by omega) (by first | decide | assumption | omega) rfl ?_
      refine wp_iret rfl rfl rfl ?_
      exact Qv kk (by first | (simp only [toldF, *, ↓reduceIte]; done) | (unfold toldF; rw [if_neg h1, if_neg h9]) | (unfold toldF; rw [if_neg h1, hrr, if_pos (nI_lt h9 (by omega)), hq, tn_nI (by omega), tn_nI (by omega)])) rfl
    · intro h9
      refine wp_iconst (v := (-1)) (pc' := 13) rfl rfl rfl ?_
      refine wp_iret rfl rfl rfl ?_
      exact Qv kk (by first | (simp only [toldF, *, ↓reduceIte]; done) | (unfold toldF; rw [if_neg h1, if_neg h9]) | (unfold toldF; rw [if_neg h1, hrr, if_pos (nI_lt h9 (by omega)), hq, tn_nI (by omega), tn_nI (by omega)])) rfl
