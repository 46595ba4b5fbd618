/-! THE REFERENCE IS MADE -/
def Upm (b : Nat) (K0 : Nat → Nat × Nat) (I0 : Mem) (L0 : Nat → Nat → Int64) (R0 : Nat → Nat → Option Nat) (K : Nat → Nat × Nat) (I : Mem) (L : Nat → Nat → Int64) (R : Nat → Nat → Option Nat) : Prop :=
  (∀ a, 319 ≤ a → a < b → some (K a) = k0 a ∧ (∀ j, I a j = 0) ∧ ∀ j, R a j = none) ∧ ∀ a, (a < 318 ∨ b ≤ a) → K a = K0 a ∧ I a = I0 a ∧ L a = L0 a ∧ R a = R0 a
def Ob3 (K : Nat → Nat × Nat) (I : Mem) (R : Nat → Nat → Option Nat) (jr : Nat → Int32) (rr : Nat → Option Nat) : Prop := K 318 = (12, 0) ∧ (∀ j, I 318 j = jr j) ∧ ∀ j, R 318 j = rr j
section
variable {b : Nat} {kd : Nat × Nat} {K0 K : Nat → Nat × Nat} {I0 I : Mem} {L0 L : Nat → Nat → Int64} {R0 R : Nat → Nat → Option Nat} {jr : Nat → Int32} {rr : Nat → Option Nat}
theorem um_0 : Upm 319 K I L R (up1 K 318 (12, 0)) (upr I 318 (fun _ => 0)) (upr L 318 (fun _ => 0)) (upr R 318 (fun _ => none)) := ⟨fun a a1 a2 => absurd a2 (by omega), fun a a1 => ⟨up1_x (by omega), upr_x (by omega), upr_x (by omega), upr_x (by omega)⟩⟩
theorem om_0 : Ob3 (up1 K 318 (12, 0)) (upr I 318 (fun _ => 0)) (upr R 318 (fun _ => none)) (fun _ => 0) (fun _ => none) := ⟨up1_y, fun j => by rw [upr_y], fun j => by rw [upr_y]⟩
theorem um_1 (h : Upm b K0 I0 L0 R0 K I L R) (hb : 319 ≤ b) (hk : some kd = k0 b) : Upm (b + 1) K0 I0 L0 R0 (up1 K b kd) (upr I b (fun _ => 0)) (upr L b (fun _ => 0)) (upr R b (fun _ => none)) := by
  refine ⟨fun a a1 a2 => ?_, fun a a1 => ?_⟩
  · by_cases e : a = b
    · subst e
      rw [up1_y, upr_y, upr_y]; exact ⟨hk, fun j => rfl, fun j => rfl⟩
    · rw [up1_x e, upr_x e, upr_x e]; exact h.1 a a1 (by omega)
  · rw [up1_x (by omega), upr_x (by omega), upr_x (by omega), upr_x (by omega)]; exact h.2 a (by omega)
theorem om_1 (h : Ob3 K I R jr rr) (hb : 319 ≤ b) : Ob3 (up1 K b kd) (upr I b (fun _ => 0)) (upr R b (fun _ => none)) jr rr := ⟨(up1_x (by omega)).trans h.1, fun j => by rw [upr_x (by omega)]; exact h.2.1 j, fun j => by rw [upr_x (by omega)]; exact h.2.2 j⟩
theorem um_r {j : Nat} {v : Option Nat} (h : Upm b K0 I0 L0 R0 K I L R) (hb : 319 ≤ b) : Upm b K0 I0 L0 R0 K I L (up2 R 318 j v) := by
  refine ⟨fun a a1 a2 => ?_, fun a a1 => ?_⟩
  · rw [up2_row (show a ≠ 318 by omega)]; exact h.1 a a1 a2
  · rw [up2_row (show a ≠ 318 by omega)]; exact h.2 a a1
theorem um_i {j : Nat} {v : Int32} (h : Upm b K0 I0 L0 R0 K I L R) (hb : 319 ≤ b) : Upm b K0 I0 L0 R0 K (up2 I 318 j v) L R := by
  refine ⟨fun a a1 a2 => ?_, fun a a1 => ?_⟩
  · rw [up2_row (show a ≠ 318 by omega)]; exact h.1 a a1 a2
  · rw [up2_row (show a ≠ 318 by omega)]; exact h.2 a a1
theorem om_r {j : Nat} {v : Option Nat} (h : Ob3 K I R jr rr) : Ob3 K I (up2 R 318 j v) jr (up1 rr j v) := ⟨h.1, h.2.1, fun i => by
  rw [up2_same]; unfold up1
  by_cases e : i = j
  · rw [if_pos e, if_pos e]
  · rw [if_neg e, if_neg e]; exact h.2.2 i⟩
theorem om_i {j : Nat} {v : Int32} (h : Ob3 K I R jr rr) : Ob3 K (up2 I 318 j v) R (up1 jr j v) rr := ⟨h.1, fun i => by
  rw [up2_same]; unfold up1
  by_cases e : i = j
  · rw [if_pos e, if_pos e]
  · rw [if_neg e, if_neg e]; exact h.2.1 i, h.2.2⟩
end
/-- the world at the start -/
def wz (i : Nat) : Nat → Int32 := fun j => if j = 3 then nI 5 else if j = 8 then nI 1 else if 10 ≤ j ∧ (j - 10) % 6 = 0 ∧ (j - 10) / 6 < i then nI 5 else 0
theorem wz_0 {I : Mem} (h : ∀ j, I 319 j = 0) : up2 (up2 I 319 8 (nI 1)) 319 3 (nI 5) = upr I 319 (wz 0) := by
  funext a j
  by_cases e : a = 319
  · subst e
    rw [up2_same, up2_same, upr_y]; unfold wz
    rw [if_neg (show ¬ (10 ≤ j ∧ (j - 10) % 6 = 0 ∧ (j - 10) / 6 < 0) by omega), h j]
  · rw [up2_row e, up2_row e, upr_x e]
theorem wz_s {i : Nat} : up1 (wz i) (9 + 6 * i + 1) (nI 5) = wz (i + 1) := by
  funext j
  by_cases e : j = 9 + 6 * i + 1
  · subst e
    rw [up1_y]; unfold wz
    rw [if_neg (by omega), if_neg (by omega), if_pos (by omega)]
  · rw [up1_x e]; unfold wz
    by_cases e2 : 10 ≤ j ∧ (j - 10) % 6 = 0 ∧ (j - 10) / 6 < i
    · rw [if_pos e2, if_pos (show 10 ≤ j ∧ (j - 10) % 6 = 0 ∧ (j - 10) / 6 < i + 1 by omega)]
    · rw [if_neg e2, if_neg (show ¬ (10 ≤ j ∧ (j - 10) % 6 = 0 ∧ (j - 10) / 6 < i + 1) by omega)]

def omJ : Nat → Int32 := (up1 (fun _ => 0) 14 (-1))
def omR : Nat → Option Nat := (up1 (up1 (up1 (up1 (up1 (up1 (up1 (up1 (up1 (up1 (up1 (up1 (up1 (up1 (up1 (up1 (up1 (up1 (fun _ => none) 1 (some 319)) 2 (some 320)) 3 (some 321)) 4 (some 322)) 5 (some 323)) 8 (some 324)) 15 (some 325)) 17 (some 326)) 18 (some 327)) 19 (some 328)) 20 (some 329)) 21 (some 330)) 22 (some 331)) 23 (some 332)) 24 (some 333)) 25 (some 334)) 26 (some 335)) 27 (some 336))
def MdJ (K : Nat → Nat × Nat) (I : Mem) (L : Nat → Nat → Int64) (R : Nat → Nat → Option Nat) (K2 : Nat → Nat × Nat) (I2 : Mem) (L2 : Nat → Nat → Int64) (R2 : Nat → Nat → Option Nat) : Prop := Upm 337 K I L R K2 (upr I2 319 (fun _ => 0)) L2 R2 ∧ Ob3 K2 I2 R2 omJ omR ∧ I2 319 = wz 25
theorem md_fin {K K1 : Nat → Nat × Nat} {I I1 : Mem} {L L1 : Nat → Nat → Int64} {R R1 : Nat → Nat → Option Nat} (hU : Upm 337 K I L R K1 I1 L1 R1) (hO : Ob3 K1 I1 R1 omJ omR) : MdJ K I L R K1 (upr I1 319 (wz 25)) L1 R1 := by
  refine ⟨⟨fun a a1 a2 => ⟨(hU.1 a a1 a2).1, fun j => ?_, (hU.1 a a1 a2).2.2⟩, fun a a1 => ?_⟩, ⟨hO.1, fun j => ?_, hO.2.2⟩, upr_y⟩
  · by_cases e : a = 319
    · subst e; rw [upr_y]
    · rw [upr_x e, upr_x e]; exact (hU.1 a a1 a2).2.1 j
  · rw [upr_x (show a ≠ 319 by omega), upr_x (show a ≠ 319 by omega)]; exact hU.2 a a1
  · rw [upr_x (by decide)]; exact hO.2.1 j
theorem md_loop {d : Nat} {K K1 : Nat → Nat × Nat} {I I1 : Mem} {L L1 : Nat → Nat → Int64} {R R1 : Nat → Nat → Option Nat} {s : Nat} {Q : Lo → Lm → Prop} (hU : Upm 337 K I L R K1 I1 L1 R1) (hO : Ob3 K1 I1 R1 omJ omR) (kk : ∀ K2 I2 L2 R2, MdJ K I L R K2 I2 L2 R2 → Q (.inl none) (K2, I2, L2, R2, 337, s)) : WP (d + 1) F_211 163 [.ref 318, lDead] [] (K1, I1, L1, R1, 337, s) Q := by
  refine wp_aload0 (pc' := 164) rfl rfl ?_
  refine wp_getRF (b := 319) (pc' := 167) rfl rfl (by rw [hO.1]) (by rw [hO.2.2]; rfl) rfl ?_
  refine wp_bipush (v := nI 8) (pc' := 169) rfl rfl rfl ?_
  refine wp_iconst (v := nI 1) (pc' := 170) rfl rfl rfl ?_
  refine wp_iast 8 (w := 2181) (pc' := 171) rfl (Option.some.inj ((hU.1 319 (by decide) (by decide)).1.trans rfl)) (by decide) rfl (by decide) (by decide) rfl ?_
  refine wp_aload0 (pc' := 172) rfl rfl ?_
  refine wp_getRF (b := 319) (pc' := 175) rfl rfl (by rw [hO.1]) (by rw [hO.2.2]; rfl) rfl ?_
  refine wp_iconst (v := nI 3) (pc' := 176) rfl rfl rfl ?_
  refine wp_iconst (v := nI 5) (pc' := 177) rfl rfl rfl ?_
  refine wp_iast 3 (w := 2181) (pc' := 178) rfl (Option.some.inj ((hU.1 319 (by decide) (by decide)).1.trans rfl)) (by decide) rfl (by decide) (by decide) rfl ?_
  refine wp_iconst (v := nI 0) (pc' := 179) rfl rfl rfl ?_
  refine wp_istore1 (pc' := 180) rfl (by first | rfl | assumption) rfl ?_
  have lp180 : ∀ r (i : Nat), i + r = 25 → WP (d + 1) F_211 180 [.ref 318, .int (nI i)] [] (K1, upr I1 319 (wz i), L1, R1, 337, s) Q := by
    intro r; induction r with
    | zero =>
      intro i hi 
      have hi2 : i = 25 := by omega
      subst hi2
      refine wp_iload1 (pc' := 181) rfl rfl ?_
      refine wp_bipush (v := nI 25) (pc' := 183) rfl rfl rfl ?_
      refine wp_icmpgeT rfl (nI_nlt (by omega) (by omega)) ?_
      refine wp_vret rfl rfl ?_
      exact kk _ _ _ _ (md_fin hU hO)
    | succ r ih =>
      intro i hi 
      have hlt : i < 25 := by omega
      refine wp_iload1 (pc' := 181) rfl rfl ?_
      refine wp_bipush (v := nI 25) (pc' := 183) rfl rfl rfl ?_
      refine wp_icmpgeF (pc' := 186) rfl (nI_lt (by omega) (by omega)) rfl ?_
      refine wp_aload0 (pc' := 187) rfl rfl ?_
      refine wp_getRF (b := 319) (pc' := 190) rfl rfl (by rw [hO.1]) (by rw [hO.2.2]; rfl) rfl ?_
      refine wp_iload1 (pc' := 191) rfl rfl ?_
      refine wp_iconst (v := nI 1) (pc' := 192) rfl rfl rfl ?_
      refine wp_callS2 (pc' := 195) rfl rfl rfl rfl rfl rfl ?_
      refine m_at (c := i) (k := 1) ?_
      refine Cont.v ?_
      refine wp_iconst (v := nI 5) (pc' := 196) rfl rfl rfl ?_
      refine wp_iast (9 + 6 * i + 1) (w := 2181) (pc' := 197) rfl (Option.some.inj ((hU.1 319 (by decide) (by decide)).1.trans rfl)) (by decide) (by with_reducible rfl) (by omega) (by decide) rfl ?_
      first | refine wp_iinc1 (w := nI 1) (pc' := 200) rfl rfl rfl (by with_reducible exact nI_add _ _) rfl ?_ | refine wp_iinc1 (w := nI 1) (pc' := 200) rfl rfl rfl rfl rfl ?_
      refine wp_goto rfl ?_
      exact WP.cg (ih (i + 1) (by omega)) (lC1 (lI1 (by rfl) rfl)) rfl (by rw [up2_upr, wz_s])
  exact WP.cg (lp180 (25 - (0)) (0) (by omega)) (lC1 (lI1 (by rfl) rfl)) rfl (by rw [wz_0 (hU.1 319 (by decide) (by decide)).2.1])
theorem m_mdI {d : Nat} {K : Nat → Nat × Nat} {I : Mem} {L : Nat → Nat → Int64} {R : Nat → Nat → Option Nat} {s : Nat} {Q : Lo → Lm → Prop} (hs : s + 30000 ≤ lmSlots) (kk : ∀ K2 I2 L2 R2, MdJ K I L R K2 I2 L2 R2 → Q (.inl none) (K2, I2, L2, R2, 337, s + 16529)) : Ok (d + 2) 211 [.ref 318] (up1 K 318 (12, 0), upr I 318 (fun _ => 0), upr L 318 (fun _ => 0), upr R 318 (fun _ => none), 319, s) Q := by
  have hf : 1000 ≤ lmCells := by decide
  have hU := um_0 (K := K) (I := I) (L := L) (R := R)
  have hO := om_0 (K := K) (I := I) (R := R)
  refine Ok.enter (F := F_211) (ls := [.ref 318, lDead]) rfl rfl ?_
  refine wp_aload0 (pc' := 1) rfl rfl ?_
  refine wp_obj (pc' := 4) rfl rfl rfl rfl ?_
  refine wp_aload0 (pc' := 5) rfl rfl ?_
  refine wp_sipush (v := nI 2181) (pc' := 8) rfl rfl rfl ?_
  refine wp_nwA (w := 2181) (ki := 50) (pc' := 10) (320) rfl rfl (by decide) (by omega) (by omega) rfl rfl ?_
  replace hU := um_1 (kd := (50, 2181)) hU (by decide) rfl
  replace hO := om_1 (b := 319) (kd := (50, 2181)) hO (by decide)
  refine wp_putRF (pc' := 13) rfl rfl (by first | (rw [hO.1]) | (show (_ : Nat × Nat).1 = _; rw [hO.1]) | (simp [up1]; done) | (simp [lmK, up1]; done)) (by omega) rfl rfl rfl ?_
  replace hO := om_r (j := 1) (v := some 319) hO
  replace hU := um_r (j := 1) (v := some 319) hU (by decide)
  refine wp_aload0 (pc' := 14) rfl rfl ?_
  refine wp_sipush (v := nI 1332) (pc' := 17) rfl rfl rfl ?_
  refine wp_nwA (w := 1332) (ki := 50) (pc' := 19) (321) rfl rfl (by decide) (by omega) (by omega) rfl rfl ?_
  replace hU := um_1 (kd := (50, 1332)) hU (by decide) rfl
  replace hO := om_1 (b := 320) (kd := (50, 1332)) hO (by decide)
  refine wp_putRF (pc' := 22) rfl rfl (by first | (rw [hO.1]) | (show (_ : Nat × Nat).1 = _; rw [hO.1]) | (simp [up1]; done) | (simp [lmK, up1]; done)) (by omega) rfl rfl rfl ?_
  replace hO := om_r (j := 2) (v := some 320) hO
  replace hU := um_r (j := 2) (v := some 320) hU (by decide)
  refine wp_aload0 (pc' := 23) rfl rfl ?_
  refine wp_sipush (v := nI 1332) (pc' := 26) rfl rfl rfl ?_
  refine wp_nwA (w := 1332) (ki := 50) (pc' := 28) (322) rfl rfl (by decide) (by omega) (by omega) rfl rfl ?_
  replace hU := um_1 (kd := (50, 1332)) hU (by decide) rfl
  replace hO := om_1 (b := 321) (kd := (50, 1332)) hO (by decide)
  refine wp_putRF (pc' := 31) rfl rfl (by first | (rw [hO.1]) | (show (_ : Nat × Nat).1 = _; rw [hO.1]) | (simp [up1]; done) | (simp [lmK, up1]; done)) (by omega) rfl rfl rfl ?_
  replace hO := om_r (j := 3) (v := some 321) hO
  replace hU := um_r (j := 3) (v := some 321) hU (by decide)
  refine wp_aload0 (pc' := 32) rfl rfl ?_
  refine wp_sipush (v := nI 483) (pc' := 35) rfl rfl rfl ?_
  refine wp_nwA (w := 483) (ki := 50) (pc' := 37) (323) rfl rfl (by decide) (by omega) (by omega) rfl rfl ?_
  replace hU := um_1 (kd := (50, 483)) hU (by decide) rfl
  replace hO := om_1 (b := 322) (kd := (50, 483)) hO (by decide)
  refine wp_putRF (pc' := 40) rfl rfl (by first | (rw [hO.1]) | (show (_ : Nat × Nat).1 = _; rw [hO.1]) | (simp [up1]; done) | (simp [lmK, up1]; done)) (by omega) rfl rfl rfl ?_
  replace hO := om_r (j := 4) (v := some 322) hO
  replace hU := um_r (j := 4) (v := some 322) hU (by decide)
  refine wp_aload0 (pc' := 41) rfl rfl ?_
  refine wp_sipush (v := nI 5796) (pc' := 44) rfl rfl rfl ?_
  refine wp_nwA (w := 5796) (ki := 50) (pc' := 46) (324) rfl rfl (by decide) (by omega) (by omega) rfl rfl ?_
  replace hU := um_1 (kd := (50, 5796)) hU (by decide) rfl
  replace hO := om_1 (b := 323) (kd := (50, 5796)) hO (by decide)
  refine wp_putRF (pc' := 49) rfl rfl (by first | (rw [hO.1]) | (show (_ : Nat × Nat).1 = _; rw [hO.1]) | (simp [up1]; done) | (simp [lmK, up1]; done)) (by omega) rfl rfl rfl ?_
  replace hO := om_r (j := 5) (v := some 323) hO
  replace hU := um_r (j := 5) (v := some 323) hU (by decide)
  refine wp_aload0 (pc' := 50) rfl rfl ?_
  refine wp_sipush (v := nI 400) (pc' := 53) rfl rfl rfl ?_
  refine wp_nwA (w := 400) (ki := 52) (pc' := 55) (325) rfl rfl (by decide) (by omega) (by omega) rfl rfl ?_
  replace hU := um_1 (kd := (52, 400)) hU (by decide) rfl
  replace hO := om_1 (b := 324) (kd := (52, 400)) hO (by decide)
  refine wp_putRF (pc' := 58) rfl rfl (by first | (rw [hO.1]) | (show (_ : Nat × Nat).1 = _; rw [hO.1]) | (simp [up1]; done) | (simp [lmK, up1]; done)) (by omega) rfl rfl rfl ?_
  replace hO := om_r (j := 8) (v := some 324) hO
  replace hU := um_r (j := 8) (v := some 324) hU (by decide)
  refine wp_aload0 (pc' := 59) rfl rfl ?_
  refine wp_iconst (v := (-1)) (pc' := 60) rfl rfl rfl ?_
  refine wp_putI (pc' := 63) rfl rfl (by first | (rw [hO.1]) | (show (_ : Nat × Nat).1 = _; rw [hO.1]) | (simp [up1]; done) | (simp [lmK, up1]; done)) (by omega) rfl ?_
  replace hO := om_i (j := 14) (v := (-1)) hO
  replace hU := um_i (j := 14) (v := (-1)) hU (by decide)
  refine wp_aload0 (pc' := 64) rfl rfl ?_
  refine wp_iconst (v := nI 5) (pc' := 65) rfl rfl rfl ?_
  refine wp_nwA (w := 5) (ki := 50) (pc' := 67) (326) rfl rfl (by decide) (by omega) (by omega) rfl rfl ?_
  replace hU := um_1 (kd := (50, 5)) hU (by decide) rfl
  replace hO := om_1 (b := 325) (kd := (50, 5)) hO (by decide)
  refine wp_putRF (pc' := 70) rfl rfl (by first | (rw [hO.1]) | (show (_ : Nat × Nat).1 = _; rw [hO.1]) | (simp [up1]; done) | (simp [lmK, up1]; done)) (by omega) rfl rfl rfl ?_
  replace hO := om_r (j := 15) (v := some 325) hO
  replace hU := um_r (j := 15) (v := some 325) hU (by decide)
  refine wp_aload0 (pc' := 71) rfl rfl ?_
  refine wp_sipush (v := nI 400) (pc' := 74) rfl rfl rfl ?_
  refine wp_nwA (w := 400) (ki := 50) (pc' := 76) (327) rfl rfl (by decide) (by omega) (by omega) rfl rfl ?_
  replace hU := um_1 (kd := (50, 400)) hU (by decide) rfl
  replace hO := om_1 (b := 326) (kd := (50, 400)) hO (by decide)
  refine wp_putRF (pc' := 79) rfl rfl (by first | (rw [hO.1]) | (show (_ : Nat × Nat).1 = _; rw [hO.1]) | (simp [up1]; done) | (simp [lmK, up1]; done)) (by omega) rfl rfl rfl ?_
  replace hO := om_r (j := 17) (v := some 326) hO
  replace hU := um_r (j := 17) (v := some 326) hU (by decide)
  refine wp_aload0 (pc' := 80) rfl rfl ?_
  refine wp_bipush (v := nI 25) (pc' := 82) rfl rfl rfl ?_
  refine wp_nwA (w := 25) (ki := 50) (pc' := 84) (328) rfl rfl (by decide) (by omega) (by omega) rfl rfl ?_
  replace hU := um_1 (kd := (50, 25)) hU (by decide) rfl
  replace hO := om_1 (b := 327) (kd := (50, 25)) hO (by decide)
  refine wp_putRF (pc' := 87) rfl rfl (by first | (rw [hO.1]) | (show (_ : Nat × Nat).1 = _; rw [hO.1]) | (simp [up1]; done) | (simp [lmK, up1]; done)) (by omega) rfl rfl rfl ?_
  replace hO := om_r (j := 18) (v := some 327) hO
  replace hU := um_r (j := 18) (v := some 327) hU (by decide)
  refine wp_aload0 (pc' := 88) rfl rfl ?_
  refine wp_bipush (v := nI 25) (pc' := 90) rfl rfl rfl ?_
  refine wp_nwA (w := 25) (ki := 50) (pc' := 92) (329) rfl rfl (by decide) (by omega) (by omega) rfl rfl ?_
  replace hU := um_1 (kd := (50, 25)) hU (by decide) rfl
  replace hO := om_1 (b := 328) (kd := (50, 25)) hO (by decide)
  refine wp_putRF (pc' := 95) rfl rfl (by first | (rw [hO.1]) | (show (_ : Nat × Nat).1 = _; rw [hO.1]) | (simp [up1]; done) | (simp [lmK, up1]; done)) (by omega) rfl rfl rfl ?_
  replace hO := om_r (j := 19) (v := some 328) hO
  replace hU := um_r (j := 19) (v := some 328) hU (by decide)
  refine wp_aload0 (pc' := 96) rfl rfl ?_
  refine wp_sipush (v := nI 400) (pc' := 99) rfl rfl rfl ?_
  refine wp_nwA (w := 400) (ki := 50) (pc' := 101) (330) rfl rfl (by decide) (by omega) (by omega) rfl rfl ?_
  replace hU := um_1 (kd := (50, 400)) hU (by decide) rfl
  replace hO := om_1 (b := 329) (kd := (50, 400)) hO (by decide)
  refine wp_putRF (pc' := 104) rfl rfl (by first | (rw [hO.1]) | (show (_ : Nat × Nat).1 = _; rw [hO.1]) | (simp [up1]; done) | (simp [lmK, up1]; done)) (by omega) rfl rfl rfl ?_
  replace hO := om_r (j := 20) (v := some 329) hO
  replace hU := um_r (j := 20) (v := some 329) hU (by decide)
  refine wp_aload0 (pc' := 105) rfl rfl ?_
  refine wp_sipush (v := nI 400) (pc' := 108) rfl rfl rfl ?_
  refine wp_nwA (w := 400) (ki := 50) (pc' := 110) (331) rfl rfl (by decide) (by omega) (by omega) rfl rfl ?_
  replace hU := um_1 (kd := (50, 400)) hU (by decide) rfl
  replace hO := om_1 (b := 330) (kd := (50, 400)) hO (by decide)
  refine wp_putRF (pc' := 113) rfl rfl (by first | (rw [hO.1]) | (show (_ : Nat × Nat).1 = _; rw [hO.1]) | (simp [up1]; done) | (simp [lmK, up1]; done)) (by omega) rfl rfl rfl ?_
  replace hO := om_r (j := 21) (v := some 330) hO
  replace hU := um_r (j := 21) (v := some 330) hU (by decide)
  refine wp_aload0 (pc' := 114) rfl rfl ?_
  refine wp_sipush (v := nI 2000) (pc' := 117) rfl rfl rfl ?_
  refine wp_nwA (w := 2000) (ki := 53) (pc' := 119) (332) rfl rfl (by decide) (by omega) (by omega) rfl rfl ?_
  replace hU := um_1 (kd := (53, 2000)) hU (by decide) rfl
  replace hO := om_1 (b := 331) (kd := (53, 2000)) hO (by decide)
  refine wp_putRF (pc' := 122) rfl rfl (by first | (rw [hO.1]) | (show (_ : Nat × Nat).1 = _; rw [hO.1]) | (simp [up1]; done) | (simp [lmK, up1]; done)) (by omega) rfl rfl rfl ?_
  replace hO := om_r (j := 22) (v := some 331) hO
  replace hU := um_r (j := 22) (v := some 331) hU (by decide)
  refine wp_aload0 (pc' := 123) rfl rfl ?_
  refine wp_bipush (v := nI 10) (pc' := 125) rfl rfl rfl ?_
  refine wp_nwA (w := 10) (ki := 50) (pc' := 127) (333) rfl rfl (by decide) (by omega) (by omega) rfl rfl ?_
  replace hU := um_1 (kd := (50, 10)) hU (by decide) rfl
  replace hO := om_1 (b := 332) (kd := (50, 10)) hO (by decide)
  refine wp_putRF (pc' := 130) rfl rfl (by first | (rw [hO.1]) | (show (_ : Nat × Nat).1 = _; rw [hO.1]) | (simp [up1]; done) | (simp [lmK, up1]; done)) (by omega) rfl rfl rfl ?_
  replace hO := om_r (j := 23) (v := some 332) hO
  replace hU := um_r (j := 23) (v := some 332) hU (by decide)
  refine wp_aload0 (pc' := 131) rfl rfl ?_
  refine wp_sipush (v := nI 1664) (pc' := 134) rfl rfl rfl ?_
  refine wp_nwA (w := 1664) (ki := 50) (pc' := 136) (334) rfl rfl (by decide) (by omega) (by omega) rfl rfl ?_
  replace hU := um_1 (kd := (50, 1664)) hU (by decide) rfl
  replace hO := om_1 (b := 333) (kd := (50, 1664)) hO (by decide)
  refine wp_putRF (pc' := 139) rfl rfl (by first | (rw [hO.1]) | (show (_ : Nat × Nat).1 = _; rw [hO.1]) | (simp [up1]; done) | (simp [lmK, up1]; done)) (by omega) rfl rfl rfl ?_
  replace hO := om_r (j := 24) (v := some 333) hO
  replace hU := um_r (j := 24) (v := some 333) hU (by decide)
  refine wp_aload0 (pc' := 140) rfl rfl ?_
  refine wp_bipush (v := nI 6) (pc' := 142) rfl rfl rfl ?_
  refine wp_nwA (w := 6) (ki := 53) (pc' := 144) (335) rfl rfl (by decide) (by omega) (by omega) rfl rfl ?_
  replace hU := um_1 (kd := (53, 6)) hU (by decide) rfl
  replace hO := om_1 (b := 334) (kd := (53, 6)) hO (by decide)
  refine wp_putRF (pc' := 147) rfl rfl (by first | (rw [hO.1]) | (show (_ : Nat × Nat).1 = _; rw [hO.1]) | (simp [up1]; done) | (simp [lmK, up1]; done)) (by omega) rfl rfl rfl ?_
  replace hO := om_r (j := 25) (v := some 334) hO
  replace hU := um_r (j := 25) (v := some 334) hU (by decide)
  refine wp_aload0 (pc' := 148) rfl rfl ?_
  refine wp_bipush (v := nI 64) (pc' := 150) rfl rfl rfl ?_
  refine wp_nwA (w := 64) (ki := 50) (pc' := 152) (336) rfl rfl (by decide) (by omega) (by omega) rfl rfl ?_
  replace hU := um_1 (kd := (50, 64)) hU (by decide) rfl
  replace hO := om_1 (b := 335) (kd := (50, 64)) hO (by decide)
  refine wp_putRF (pc' := 155) rfl rfl (by first | (rw [hO.1]) | (show (_ : Nat × Nat).1 = _; rw [hO.1]) | (simp [up1]; done) | (simp [lmK, up1]; done)) (by omega) rfl rfl rfl ?_
  replace hO := om_r (j := 26) (v := some 335) hO
  replace hU := um_r (j := 26) (v := some 335) hU (by decide)
  refine wp_aload0 (pc' := 156) rfl rfl ?_
  refine wp_bipush (v := nI 6) (pc' := 158) rfl rfl rfl ?_
  refine wp_nwA (w := 6) (ki := 51) (pc' := 160) (337) rfl rfl (by decide) (by omega) (by omega) rfl rfl ?_
  replace hU := um_1 (kd := (51, 6)) hU (by decide) rfl
  replace hO := om_1 (b := 336) (kd := (51, 6)) hO (by decide)
  refine wp_putRF (pc' := 163) rfl rfl (by first | (rw [hO.1]) | (show (_ : Nat × Nat).1 = _; rw [hO.1]) | (simp [up1]; done) | (simp [lmK, up1]; done)) (by omega) rfl rfl rfl ?_
  replace hO := om_r (j := 27) (v := some 336) hO
  replace hU := um_r (j := 27) (v := some 336) hU (by decide)
  refine md_loop hU hO (fun K2 I2 L2 R2 h => ?_)
  rw [show s + 2181 + 1332 + 1332 + 483 + 5796 + 400 + 5 + 400 + 25 + 25 + 400 + 400 + 2000 + 10 + 1664 + 6 + 64 + 6 = s + 16529 by omega]
  exact kk _ _ _ _ h
