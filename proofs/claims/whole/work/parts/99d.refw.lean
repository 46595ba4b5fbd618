/-! THE REFERENCE: more lines of the bog's text -/
def drnW (w : Nat → Int32) (x : Int32) (i : Nat) : Nat → Int32 := forN (fun c u => up1 u (9 + 6 * c + 2) (u (9 + 6 * c + 2) ||| (jshr x (nI c) &&& nI 1))) w i
theorem drnW_s {w : Nat → Int32} {x : Int32} {i : Nat} : drnW w x (i + 1) = up1 (drnW w x i) (9 + 6 * i + 2) (drnW w x i (9 + 6 * i + 2) ||| (jshr x (nI i) &&& nI 1)) := rfl
def wlDrn (tv : Nat → Nat) (T : Nat) (w : Nat → Int32) (p : Nat) : Bool × (Nat → Int32) × Nat := match (celL tv T p).1 with
  | none => (false, w, (celL tv T p).2)
  | some x => (true, drnW w x 25, (celL tv T p).2)
theorem wdrn_n {tv : Nat → Nat} {T p z : Nat} {w : Nat → Int32} (h : celL tv T p = (none, z)) : wlDrn tv T w p = (false, w, z) := by unfold wlDrn; rw [h]
theorem wdrn_s {tv : Nat → Nat} {T p z : Nat} {w : Nat → Int32} {x : Int32} (h : celL tv T p = (some x, z)) : wlDrn tv T w p = (true, drnW w x 25, z) := by unfold wlDrn; rw [h]
theorem cel_ne {tv : Nat → Nat} {T : Nat} : ∀ f x p y, p ≤ T → (celF tv T f x p).1 = some y → ¬ y = nI 0
  | 0, x, p, y => fun _ h => by cases h
  | f + 1, x, p, y => fun hp h => by
    cases hN : numR tv T p (nI 0) (nI 24) with
    | none => rw [cel_n hN] at h; cases h
    | some b =>
      obtain ⟨v, z⟩ := b
      rw [cel_s hN] at h
      have hz := num_le hp (by decide) hN
      by_cases e : atDg tv T z
      · rw [if_pos e] at h
        exact cel_ne f _ z y hz.1 h
      · rw [if_neg e] at h
        have h2 : x ||| jshl (nI 1) (nI v) = y := by cases h; rfl
        intro q
        have : btI y v = true := by rw [← h2, b_or, bt_s1 v (by omega) v (by omega), decide_eq_true rfl, Bool.or_true]
        rw [q, bt_n0] at this
        cases this
theorem celZ_0 {tv : Nat → Nat} {T p : Nat} {r : Option Int32 × Nat} (hp : p ≤ T) (h : celL tv T p = r) (h0 : celZ r.1 = nI 0) : r = (none, r.2) := by
  obtain ⟨a, z⟩ := r
  cases a with
  | none => rfl
  | some x => exact absurd h0 (cel_ne 8 (nI 0) p x hp (by rw [show celF tv T 8 (nI 0) p = (some x, z) from h]))
theorem celZ_1 {r : Option Int32 × Nat} (h0 : ¬ celZ r.1 = nI 0) : r = (some (celZ r.1), r.2) := by
  obtain ⟨a, z⟩ := r
  cases a with
  | none => exact absurd rfl h0
  | some x => rfl
theorem ce_rd {T : Nat} {tv : Nat → Nat} {I J : Mem} {r : Option Int32 × Nat} (h : CeJ T tv I r J) (hR : RfI I T tv) : RfI J T tv := ⟨by rw [h.2.1 11 (by decide) (by decide)]; exact hR.1, hR.2.1, by rw [h.1 324 (by decide)]; exact hR.2.2⟩
theorem rd_cef {T z : Nat} {tv : Nat → Nat} {I J : Mem} {w g : Nat → Int32} (h : CeJ T tv I (none, z) J) : RdJ T tv I (false, w, z) (upr J 319 g) := ⟨fun a h1 h2 => (upr_ne h2).trans (h.1 a h1), fun j h1 h2 => by rw [upr_ne (by decide)]; exact h.2.1 j h1 h2, fun q => absurd (show false = true from q) (by decide), fun _ => by rw [upr_ne (by decide)]; exact h.2.2.2 rfl⟩
theorem rd_ces {T z : Nat} {tv : Nat → Nat} {I J : Mem} {w : Nat → Int32} {x : Int32} (h : CeJ T tv I (some x, z) J) : RdJ T tv I (true, w, z) (upr J 319 w) := by
  obtain ⟨p, h1, h2, h3⟩ := h.2.2.1 x rfl
  exact ⟨fun a a1 a2 => (upr_ne a2).trans (h.1 a a1), fun j a1 a2 => by rw [upr_ne (by decide)]; exact h.2.1 j a1 a2, fun _ => ⟨upr_same, p, h1, by rw [upr_ne (by decide)]; exact h2, h3⟩, fun q => absurd (show true = false from q) (by decide)⟩
theorem rd_up {T : Nat} {tv : Nat → Nat} {I J N : Mem} {r : Bool × (Nat → Int32) × Nat} (h1 : ∀ a, a ≠ 318 → a ≠ 319 → J a = I a) (h2 : ∀ j, j ≠ 10 → j ≠ 12 → J 318 j = I 318 j) (g : RdJ T tv J r N) : RdJ T tv I r N := ⟨fun a a1 a2 => (g.1 a a1 a2).trans (h1 a a1 a2), fun j a1 a2 => (g.2.1 j a1 a2).trans (h2 j a1 a2), g.2.2⟩

theorem m_readDrain {d : Nat} {K : Nat → Nat × Nat} {I : Nat → Nat → Int32} {L : Nat → Nat → Int64} {R : Nat → Nat → Option Nat} {n s : Nat} {Q : Lo → Lm → Prop} {T p : Nat} {tv : Nat → Nat} (hT : TK K R n) (hR : RfI I T tv) (hp : p ≤ T) (h10 : I 318 10 = nI p) (kk : ∀ r J, wlDrn tv T (I 319) (skp tv T p) = r → RdJ T tv I r J → Q (.inl (some (.int (if r.1 = true then nI 1 else nI 0)))) (K, J, L, R, n, s)) : Ok (d + 5) 231 [.ref 318] (K, I, L, R, n, s) Q := by
  obtain ⟨-, -, hn⟩ := id hT
  refine Ok.enter (F := F_231) (ls := [.ref 318, lDead, lDead]) rfl rfl ?_
  refine wp_aload0 (pc' := 1) rfl rfl ?_
  refine wp_callV1 (pc' := 4) rfl rfl rfl rfl rfl (by first | exact TK.k1 hT rfl | exact TK.kk hT rfl | exact TK.r hT rfl | assumption) rfl rfl ?_
  refine m_cellsTold hT hR hp h10 (fun rc J hrc hJ => ?_)
  obtain ⟨q, hq⟩ : ∃ q, skp tv T p = q := ⟨_, rfl⟩
  have hqT := (skp_ge (tv := tv) hp).2
  rw [hq] at hrc hqT kk
  refine Cont.v ?_
  refine wp_istore1 (pc' := 5) rfl (by first | rfl | assumption) rfl ?_
  refine wp_iconst (v := nI 0) (pc' := 6) rfl rfl rfl ?_
  refine wp_istore2 (pc' := 7) rfl (by first | rfl | assumption) rfl ?_
  have lp7 : ∀ r (i : Nat), i + r = 25 → WP (d + 4) F_231 7 [.ref 318, .int (celZ rc.1), .int (nI i)] [] (K, upr J 319 (drnW (I 319) (celZ rc.1) i), L, R, n, s) Q := by
    intro r; induction r with
    | zero =>
      intro i hi 
      have hi2 : i = 25 := by omega
      subst hi2
      refine wp_iload2 (pc' := 8) rfl rfl ?_
      refine wp_bipush (v := nI 25) (pc' := 10) rfl rfl rfl ?_
      refine wp_icmpgeT rfl (nI_nlt (by omega) (by omega)) ?_
      refine wp_iload1 (pc' := 38) rfl rfl ?_
      first | refine wp_ifeqB (pc' := 41) rfl rfl ?_ ?_ | refine wp_ifeq (pc' := 41) rfl rfl ?_ ?_
      · intro h38
        refine wp_iconst (v := nI 0) (pc' := 46) rfl rfl rfl ?_
        refine wp_iret rfl rfl (by first | rfl | exact nar_if) ?_
        first | (have e := celZ_0 hqT hrc h38; rw [e] at hrc hJ; exact kk (false, I 319, rc.2) _ (wdrn_n hrc) (rd_cef hJ)) | (have e := celZ_1 h38; rw [e] at hrc hJ; exact kk (true, drnW (I 319) (celZ rc.1) 25, rc.2) _ (wdrn_s hrc) (rd_ces hJ))
      · intro h38
        refine wp_iconst (v := nI 1) (pc' := 42) rfl rfl rfl ?_
        refine wp_goto rfl ?_
        refine wp_iret rfl rfl (by first | rfl | exact nar_if) ?_
        first | (have e := celZ_0 hqT hrc h38; rw [e] at hrc hJ; exact kk (false, I 319, rc.2) _ (wdrn_n hrc) (rd_cef hJ)) | (have e := celZ_1 h38; rw [e] at hrc hJ; exact kk (true, drnW (I 319) (celZ rc.1) 25, rc.2) _ (wdrn_s hrc) (rd_ces hJ))
    | succ r ih =>
      intro i hi 
      have hlt : i < 25 := by omega
      refine wp_iload2 (pc' := 8) rfl rfl ?_
      refine wp_bipush (v := nI 25) (pc' := 10) rfl rfl rfl ?_
      refine wp_icmpgeF (pc' := 13) rfl (nI_lt (by omega) (by omega)) rfl ?_
      refine wp_aload0 (pc' := 14) rfl rfl ?_
      refine wp_getRF (pc' := 17) rfl rfl (by first | exact TK.k1 hT rfl | exact TK.kk hT rfl | exact TK.r hT rfl | assumption) (by first | exact TK.k1 hT rfl | exact TK.kk hT rfl | exact TK.r hT rfl | assumption) rfl ?_
      refine wp_iload2 (pc' := 18) rfl rfl ?_
      refine wp_iconst (v := nI 2) (pc' := 19) rfl rfl rfl ?_
      refine wp_callS2 (pc' := 22) rfl rfl rfl rfl rfl rfl ?_
      refine m_at ?_
      refine Cont.v ?_
      refine wp_dup2 (pc' := 23) rfl rfl rfl rfl ?_
      refine wp_iald _ (pc' := 24) rfl (by first | exact TK.k1 hT rfl | exact TK.kk hT rfl | exact TK.r hT rfl | assumption) (by with_reducible rfl) (by omega) (by first | decide | assumption | omega) rfl ?_
      rw [upr_same]
      refine wp_iload1 (pc' := 25) rfl rfl ?_
      refine wp_iload2 (pc' := 26) rfl rfl ?_
      refine wp_ishr (pc' := 27) rfl rfl ?_
      refine wp_iconst (v := nI 1) (pc' := 28) rfl rfl rfl ?_
      refine wp_iand (pc' := 29) rfl rfl ?_
      refine wp_ior (pc' := 30) rfl rfl ?_
      refine wp_iast _ (pc' := 31) rfl (by first | exact TK.k1 hT rfl | exact TK.kk hT rfl | exact TK.r hT rfl | assumption) (by omega) (by with_reducible rfl) (by omega) (by first | decide | assumption | omega) rfl ?_
      first | refine wp_iinc2 (w := nI 1) (pc' := 34) rfl rfl rfl (by with_reducible exact nI_add _ _) rfl ?_ | refine wp_iinc2 (w := nI 1) (pc' := 34) rfl rfl rfl rfl rfl ?_
      refine wp_goto rfl ?_
      exact WP.cg (ih (i + 1) (by omega)) (lC1 (lI1 (by rfl) (lI1 (by rfl) rfl))) rfl (by rw [up2_upr] <;> rfl)
  exact WP.cg (lp7 (25 - (0)) (0) (by omega)) (lC1 (lI1 (by rfl) (lI1 (by rfl) rfl))) rfl (by rw [show drnW (I 319) (celZ rc.1) 0 = J 319 from (hJ.1 319 (by decide)).symm, upr_id])
def turW (w : Nat → Int32) (c m y : Nat) : Nat → Int32 := up1 (up1 (up1 w (9 + 6 * c + 3) (nI m)) (9 + 6 * c + 4) (nI y)) (9 + 6 * c + 5) (nI 0)
def wlTur (tv : Nat → Nat) (T : Nat) (w : Nat → Int32) (p : Nat) : Bool × (Nat → Int32) × Nat := match numR tv T p (nI 0) (nI 24) with
  | none => (false, w, p)
  | some c => (match numR tv T c.2 (nI 1) (nI 99) with
    | none => (false, w, c.2)
    | some m => (match optN tv T m.2 kDry 99 with
      | none => (false, w, afB tv T m.2 kDry)
      | some y => (true, turW w c.1 m.1 y.1, y.2)))
theorem wtur_0 {tv : Nat → Nat} {T p : Nat} {w : Nat → Int32} (h : numR tv T p (nI 0) (nI 24) = none) : wlTur tv T w p = (false, w, p) := by unfold wlTur; rw [h]
theorem wtur_1 {tv : Nat → Nat} {T p c z : Nat} {w : Nat → Int32} (h : numR tv T p (nI 0) (nI 24) = some (c, z)) (h1 : numR tv T z (nI 1) (nI 99) = none) : wlTur tv T w p = (false, w, z) := by unfold wlTur; rw [h]; dsimp only; rw [h1]
theorem wtur_2 {tv : Nat → Nat} {T p c z m z1 : Nat} {w : Nat → Int32} (h : numR tv T p (nI 0) (nI 24) = some (c, z)) (h1 : numR tv T z (nI 1) (nI 99) = some (m, z1)) (h2 : optN tv T z1 kDry 99 = none) : wlTur tv T w p = (false, w, afB tv T z1 kDry) := by unfold wlTur; rw [h]; dsimp only; rw [h1]; dsimp only; rw [h2]
theorem wtur_3 {tv : Nat → Nat} {T p c z m z1 y z2 : Nat} {w : Nat → Int32} (h : numR tv T p (nI 0) (nI 24) = some (c, z)) (h1 : numR tv T z (nI 1) (nI 99) = some (m, z1)) (h2 : optN tv T z1 kDry 99 = some (y, z2)) : wlTur tv T w p = (true, turW w c m y, z2) := by unfold wlTur; rw [h]; dsimp only; rw [h1]; dsimp only; rw [h2]
theorem told_n {r : Option (Nat × Nat)} (hb : ∀ v z, r = some (v, z) → v < 100000000) (h : toldV r = nI 100000000) : r = none := by
  cases r with
  | none => rfl
  | some x => exact absurd (eq_nI h (by have := hb x.1 x.2 rfl; omega) (by omega)) (by have := hb x.1 x.2 rfl; omega)
theorem told_s {r : Option (Nat × Nat)} (h : ¬ toldV r = nI 100000000) : ∃ v z, r = some (v, z) := by
  cases r with
  | none => exact absurd rfl h
  | some x => exact ⟨x.1, x.2, rfl⟩
theorem wn_f {T bb : Nat} {tv : Nat → Nat} {I J : Mem} {w : Nat → Int32} (h : WnJ T tv I none bb J) : RdJ T tv I (false, w, bb) J := ⟨fun a h1 _ => h.1 a h1, h.2.1, fun q => absurd (show false = true from q) (by decide), fun _ => h.2.2.2 rfl⟩
theorem wn_s {T bb v z : Nat} {tv : Nat → Nat} {I J : Mem} {w : Nat → Int32} (h : WnJ T tv I (some (v, z)) bb J) : RdJ T tv I (true, w, z) (upr J 319 w) := by
  obtain ⟨p, h1, h2, h3⟩ := h.2.2.1 v z rfl
  exact ⟨fun a a1 a2 => (upr_ne a2).trans (h.1 a a1), fun j a1 a2 => by rw [upr_ne (by decide)]; exact h.2.1 j a1 a2, fun _ => ⟨upr_same, p, h1, by rw [upr_ne (by decide)]; exact h2, h3⟩, fun q => absurd (show true = false from q) (by decide)⟩
theorem tk_up {T : Nat} {tv : Nat → Nat} {I J N : Mem} {p b : Nat} {r : Bool × (Nat → Int32) × Nat} (h : TkJ I J p b) (g : RdJ T tv J r N) : RdJ T tv I r N := rd_up (fun a a1 _ => h.1 a a1) h.2.1 g
theorem wn_up {T bb : Nat} {tv : Nat → Nat} {I J N : Mem} {p b : Nat} {r : Option (Nat × Nat)} (h : TkJ I J p b) (g : WnJ T tv J r bb N) : WnJ T tv I r bb N := ⟨fun a a1 => (g.1 a a1).trans (h.1 a a1), fun j a1 a2 => (g.2.1 j a1 a2).trans (h.2.1 j a1 a2), g.2.2⟩

theorem m_readTurves {d : Nat} {K : Nat → Nat × Nat} {I : Nat → Nat → Int32} {L : Nat → Nat → Int64} {R : Nat → Nat → Option Nat} {n s : Nat} {Q : Lo → Lm → Prop} {T p : Nat} {tv : Nat → Nat} (hT : TK K R n) (hR : RfI I T tv) (hp : p ≤ T) (h10 : I 318 10 = nI p) (hS : SS K I R) (kk : ∀ r J, wlTur tv T (I 319) (skp tv T p) = r → RdJ T tv I r J → Q (.inl (some (.int (if r.1 = true then nI 1 else nI 0)))) (K, J, L, R, n, s)) : Ok (d + 6) 233 [.ref 318] (K, I, L, R, n, s) Q := by
  obtain ⟨-, -, hn⟩ := id hT
  refine Ok.enter (F := F_233) (ls := [.ref 318, lDead, lDead, lDead]) rfl rfl ?_
  refine wp_aload0 (pc' := 1) rfl rfl ?_
  refine wp_iconst (v := nI 0) (pc' := 2) rfl rfl rfl ?_
  refine wp_bipush (v := nI 24) (pc' := 4) rfl rfl rfl ?_
  refine wp_callV3 (pc' := 7) rfl rfl rfl rfl rfl (by first | exact TK.k1 hT rfl | exact TK.kk hT rfl | exact TK.r hT rfl | assumption) rfl rfl ?_
  refine m_numberJ hT hR hp h10 (fun J e hE hJ => ?_)
  obtain ⟨q, hq⟩ : ∃ q, skp tv T p = q := ⟨_, rfl⟩
  have hqT := (skp_ge (tv := tv) hp).2
  rw [hq] at hE hJ hqT kk ⊢
  refine Cont.v ?_
  refine wp_istore1 (pc' := 8) rfl (by first | rfl | assumption) rfl ?_
  refine wp_iload1 (pc' := 9) rfl rfl ?_
  refine wp_ifge (pc' := 12) rfl rfl ?_ ?_
  · intro h9
    refine wp_aload0 (pc' := 17) rfl rfl ?_
    refine wp_iconst (v := nI 1) (pc' := 18) rfl rfl rfl ?_
    refine wp_bipush (v := nI 99) (pc' := 20) rfl rfl rfl ?_
    refine wp_callV3 (pc' := 23) rfl rfl rfl rfl rfl (by first | exact TK.k1 hT rfl | exact TK.kk hT rfl | exact TK.r hT rfl | assumption) rfl rfl ?_
    obtain ⟨c, z, hN, hv, hv1, hv24, hqz, hzT⟩ := num_pos hqT h9
    have hzz := nu_ok hE hN
    have hc24 : c ≤ 24 := ge_nI hv24 (by omega)
    rw [hN]
    refine m_numberJ hT (tk_rd hJ hR) hzz.1 hJ.2.2.1 (fun J2 e2 hE2 hJ2 => ?_)
    rw [hzz.2] at hE2 hJ2 ⊢
    refine Cont.v ?_
    refine wp_istore2 (pc' := 24) rfl (by first | rfl | assumption) rfl ?_
    refine wp_iload2 (pc' := 25) rfl rfl ?_
    refine wp_ifge (pc' := 28) rfl rfl ?_ ?_
    · intro h25
      refine wp_aload0 (pc' := 31) rfl rfl ?_
      refine wp_pool (v := .ref (lmB + 70)) (pc' := 33) rfl rfl rfl rfl rfl ?_
      refine wp_bipush (v := nI 99) (pc' := 35) rfl rfl rfl ?_
      refine wp_iconst (v := nI 0) (pc' := 36) rfl rfl rfl ?_
      refine wp_callV4 (pc' := 39) rfl rfl rfl rfl rfl (by first | exact TK.k1 hT rfl | exact TK.kk hT rfl | exact TK.r hT rfl | assumption) rfl rfl ?_
      obtain ⟨m, z1, hN1, hm, hm1, hm9, hqz1, hzT1⟩ := num_pos hzT h25
      have hzz1 := nu_ok hE2 hN1
      rw [hN1]
      refine m_told (w := 35) kDry hT (tk_rd hJ2 (tk_rd hJ hR)) hzz1.1 hJ2.2.2.1 (tk_ss hJ2 (tk_ss hJ hS)) (by decide) (by decide) (fun rt J3 hrt hJ3 => ?_)
      rw [hzz1.2] at hrt hJ3
      have hbt : ∀ v z, rt = some (v, z) → v < 100000000 := fun v z h => by rw [h] at hrt; have := (optN_le hzT1 (by decide) hrt).2; omega
      refine Cont.v ?_
      refine wp_istore3 (pc' := 40) rfl (by first | rfl | assumption) rfl ?_
      refine wp_iload3 (pc' := 41) rfl rfl ?_
      refine wp_pool (v := .int (nI 100000000)) (pc' := 43) rfl rfl rfl rfl rfl ?_
      refine wp_icmpne (pc' := 46) rfl rfl ?_ ?_
      · intro h43
        obtain ⟨y, z2, hrs⟩ := told_s h43
        subst hrs
        refine wp_aload0 (pc' := 49) rfl rfl ?_
        refine wp_getRF (pc' := 52) rfl rfl (by first | exact TK.k1 hT rfl | exact TK.kk hT rfl | exact TK.r hT rfl | assumption) (by first | exact TK.k1 hT rfl | exact TK.kk hT rfl | exact TK.r hT rfl | assumption) rfl ?_
        refine wp_iload1 (pc' := 53) rfl rfl ?_
        refine wp_iconst (v := nI 3) (pc' := 54) rfl rfl rfl ?_
        refine wp_callS2 (pc' := 57) rfl rfl rfl rfl rfl rfl ?_
        refine m_at ?_
        refine Cont.v ?_
        refine wp_iload2 (pc' := 58) rfl rfl ?_
        refine wp_iast _ (pc' := 59) rfl (by first | exact TK.k1 hT rfl | exact TK.kk hT rfl | exact TK.r hT rfl | assumption) (by omega) (by with_reducible rfl) (by omega) (by first | decide | assumption | omega) rfl ?_
        refine wp_aload0 (pc' := 60) rfl rfl ?_
        refine wp_getRF (pc' := 63) rfl rfl (by first | exact TK.k1 hT rfl | exact TK.kk hT rfl | exact TK.r hT rfl | assumption) (by first | exact TK.k1 hT rfl | exact TK.kk hT rfl | exact TK.r hT rfl | assumption) rfl ?_
        refine wp_iload1 (pc' := 64) rfl rfl ?_
        refine wp_iconst (v := nI 4) (pc' := 65) rfl rfl rfl ?_
        refine wp_callS2 (pc' := 68) rfl rfl rfl rfl rfl rfl ?_
        refine m_at ?_
        refine Cont.v ?_
        refine wp_iload3 (pc' := 69) rfl rfl ?_
        refine wp_iast _ (pc' := 70) rfl (by first | exact TK.k1 hT rfl | exact TK.kk hT rfl | exact TK.r hT rfl | assumption) (by omega) (by with_reducible rfl) (by omega) (by first | decide | assumption | omega) rfl ?_
        refine wp_aload0 (pc' := 71) rfl rfl ?_
        refine wp_getRF (pc' := 74) rfl rfl (by first | exact TK.k1 hT rfl | exact TK.kk hT rfl | exact TK.r hT rfl | assumption) (by first | exact TK.k1 hT rfl | exact TK.kk hT rfl | exact TK.r hT rfl | assumption) rfl ?_
        refine wp_iload1 (pc' := 75) rfl rfl ?_
        refine wp_iconst (v := nI 5) (pc' := 76) rfl rfl rfl ?_
        refine wp_callS2 (pc' := 79) rfl rfl rfl rfl rfl rfl ?_
        refine m_at ?_
        refine Cont.v ?_
        refine wp_iconst (v := nI 0) (pc' := 80) rfl rfl rfl ?_
        refine wp_iast _ (pc' := 81) rfl (by first | exact TK.k1 hT rfl | exact TK.kk hT rfl | exact TK.r hT rfl | assumption) (by omega) (by with_reducible rfl) (by omega) (by first | decide | assumption | omega) rfl ?_
        refine wp_iconst (v := nI 1) (pc' := 82) rfl rfl rfl ?_
        refine wp_iret rfl rfl (by first | rfl | exact nar_if) ?_
        have h9x : J3 319 = I 319 := (hJ3.1 319 (by decide)).trans ((hJ2.1 319 (by decide)).trans (hJ.1 319 (by decide)))
        simp only [up2_as, upr_upr, upr_same]
        rw [h9x]
        exact kk _ _ (wtur_3 hN hN1 hrt) (wn_s (wn_up hJ (wn_up hJ2 hJ3)))
      · intro h43
        refine wp_iconst (v := nI 0) (pc' := 47) rfl rfl rfl ?_
        refine wp_iret rfl rfl (by first | rfl | exact nar_if) ?_
        have hrn := told_n hbt h43
        subst hrn
        exact kk _ _ (wtur_2 hN hN1 hrt) (wn_f (wn_up hJ (wn_up hJ2 hJ3)))
    · intro h25
      refine wp_iconst (v := nI 0) (pc' := 29) rfl rfl rfl ?_
      refine wp_iret rfl rfl (by first | rfl | exact nar_if) ?_
      first | (have hN := num_neg hqT h9; exact kk _ _ (wtur_0 hN) (rd_f hJ)) | (have hN1 := num_neg hzT h25; exact kk _ _ (wtur_1 hN hN1) (rd_f (tk_tr hJ hJ2)))
  · intro h9
    refine wp_iconst (v := (-1)) (pc' := 13) rfl rfl rfl ?_
    refine wp_goto rfl ?_
    refine wp_istore2 (pc' := 24) rfl (by first | rfl | assumption) rfl ?_
    refine wp_iload2 (pc' := 25) rfl rfl ?_
    refine wp_ifgeF (pc' := 28) rfl (by decide) rfl ?_
    refine wp_iconst (v := nI 0) (pc' := 29) rfl rfl rfl ?_
    refine wp_iret rfl rfl (by first | rfl | exact nar_if) ?_
    first | (have hN := num_neg hqT h9; exact kk _ _ (wtur_0 hN) (rd_f hJ)) | (have hN1 := num_neg hzT h25; exact kk _ _ (wtur_1 hN hN1) (rd_f (tk_tr hJ hJ2)))
def heaW (w : Nat → Int32) (H h m y : Nat) : Nat → Int32 := up1 (up1 (up1 (up1 (up1 w (159 + 4 * H + 0) (nI h)) (159 + 4 * H + 1) (nI m)) (159 + 4 * H + 2) (nI y)) (159 + 4 * H + 3) (nI 0)) 0 (nI (H + 1))
def wlHea (tv : Nat → Nat) (T : Nat) (w : Nat → Int32) (b0 p H : Nat) : Bool × (Nat → Int32) × Nat := if 6 ≤ H then (false, w, b0) else match mstN tv T p kHands (nI 1) 9 with
  | none => (false, w, afB tv T p kHands)
  | some h => (match mstN tv T h.2 kNeed (nI 0) 99 with
    | none => (false, w, afB tv T h.2 kNeed)
    | some m => (match optN tv T m.2 kStore 999 with
      | none => (false, w, afB tv T m.2 kStore)
      | some y => (true, heaW w H h.1 m.1 y.1, y.2)))
theorem whea_6 {tv : Nat → Nat} {T b0 p H : Nat} {w : Nat → Int32} (h : 6 ≤ H) : wlHea tv T w b0 p H = (false, w, b0) := if_pos h
theorem whea_0 {tv : Nat → Nat} {T b0 p H : Nat} {w : Nat → Int32} (h : ¬ 6 ≤ H) (h0 : mstN tv T p kHands (nI 1) 9 = none) : wlHea tv T w b0 p H = (false, w, afB tv T p kHands) := by unfold wlHea; rw [if_neg h, h0]
theorem whea_1 {tv : Nat → Nat} {T b0 p H a z : Nat} {w : Nat → Int32} (h : ¬ 6 ≤ H) (h0 : mstN tv T p kHands (nI 1) 9 = some (a, z)) (h1 : mstN tv T z kNeed (nI 0) 99 = none) : wlHea tv T w b0 p H = (false, w, afB tv T z kNeed) := by unfold wlHea; rw [if_neg h, h0]; dsimp only; rw [h1]
theorem whea_2 {tv : Nat → Nat} {T b0 p H a z m z1 : Nat} {w : Nat → Int32} (h : ¬ 6 ≤ H) (h0 : mstN tv T p kHands (nI 1) 9 = some (a, z)) (h1 : mstN tv T z kNeed (nI 0) 99 = some (m, z1)) (h2 : optN tv T z1 kStore 999 = none) : wlHea tv T w b0 p H = (false, w, afB tv T z1 kStore) := by unfold wlHea; rw [if_neg h, h0]; dsimp only; rw [h1]; dsimp only; rw [h2]
theorem whea_3 {tv : Nat → Nat} {T b0 p H a z m z1 y z2 : Nat} {w : Nat → Int32} (h : ¬ 6 ≤ H) (h0 : mstN tv T p kHands (nI 1) 9 = some (a, z)) (h1 : mstN tv T z kNeed (nI 0) 99 = some (m, z1)) (h2 : optN tv T z1 kStore 999 = some (y, z2)) : wlHea tv T w b0 p H = (true, heaW w H a m y, z2) := by unfold wlHea; rw [if_neg h, h0]; dsimp only; rw [h1]; dsimp only; rw [h2]
theorem mst_neg {r : Option (Nat × Nat)} (hb : ∀ v z, r = some (v, z) → v < 10000) (h : numV r < nI 0) : r = none := by
  cases r with
  | none => rfl
  | some x => exact absurd h (nI_pos (show x.1 < 2 ^ 31 by have := hb x.1 x.2 rfl; omega))
theorem mst_pos {r : Option (Nat × Nat)} (h : ¬ numV r < nI 0) : ∃ v z, r = some (v, z) := by
  cases r with
  | none => exact absurd (show numV none < nI 0 by decide) h
  | some x => exact ⟨x.1, x.2, rfl⟩
theorem wn_rd {T bb : Nat} {tv : Nat → Nat} {I J : Mem} {r : Option (Nat × Nat)} (h : WnJ T tv I r bb J) (hR : RfI I T tv) : RfI J T tv := ⟨by rw [h.2.1 11 (by decide) (by decide)]; exact hR.1, hR.2.1, by rw [h.1 324 (by decide)]; exact hR.2.2⟩
theorem wn_ss {T bb : Nat} {tv : Nat → Nat} {K : Nat → Nat × Nat} {R : Nat → Nat → Option Nat} {I J : Mem} {r : Option (Nat × Nat)} (h : WnJ T tv I r bb J) (hS : SS K I R) : SS K J R := SS_off hS (fun a ha => h.1 a (by unfold lmB at ha; omega))
theorem wn_wn {T bb bc : Nat} {tv : Nat → Nat} {I J N : Mem} {r r2 : Option (Nat × Nat)} (h : WnJ T tv I r bb J) (g : WnJ T tv J r2 bc N) : WnJ T tv I r2 bc N := ⟨fun a a1 => (g.1 a a1).trans (h.1 a a1), fun j a1 a2 => (g.2.1 j a1 a2).trans (h.2.1 j a1 a2), g.2.2⟩

theorem m_readHearth {d : Nat} {K : Nat → Nat × Nat} {I : Nat → Nat → Int32} {L : Nat → Nat → Int64} {R : Nat → Nat → Option Nat} {n s : Nat} {Q : Lo → Lm → Prop} {T p b0 H : Nat} {tv : Nat → Nat} (hT : TK K R n) (hR : RfI I T tv) (hp : p ≤ T) (h10 : I 318 10 = nI p) (hS : SS K I R) (hw : I 319 0 = nI H) (hH6 : H ≤ 6) (h12 : I 318 12 = nI b0) (kk : ∀ r J, wlHea tv T (I 319) b0 (skp tv T p) H = r → RdJ T tv I r J → Q (.inl (some (.int (if r.1 = true then nI 1 else nI 0)))) (K, J, L, R, n, s)) : Ok (d + 6) 236 [.ref 318] (K, I, L, R, n, s) Q := by
  obtain ⟨-, -, hn⟩ := id hT
  refine Ok.enter (F := F_236) (ls := [.ref 318, lDead, lDead, lDead, lDead]) rfl rfl ?_
  refine wp_aload0 (pc' := 1) rfl rfl ?_
  refine wp_callV1 (pc' := 4) rfl rfl rfl rfl rfl (by first | exact TK.k1 hT rfl | exact TK.kk hT rfl | exact TK.r hT rfl | assumption) rfl rfl ?_
  refine m_hearths hT hw ?_
  refine Cont.v ?_
  refine wp_istore1 (pc' := 5) rfl (by first | rfl | assumption) rfl ?_
  refine wp_iload1 (pc' := 6) rfl rfl ?_
  refine wp_bipush (v := nI 6) (pc' := 8) rfl rfl rfl ?_
  refine wp_icmpne (pc' := 11) rfl rfl ?_ ?_
  · intro h8
    have hH5 : ¬ 6 ≤ H := fun z => h8 (by rw [show H = 6 by omega])
    refine wp_aload0 (pc' := 14) rfl rfl ?_
    refine wp_pool (v := .ref (lmB + 74)) (pc' := 16) rfl rfl rfl rfl rfl ?_
    refine wp_iconst (v := nI 1) (pc' := 17) rfl rfl rfl ?_
    refine wp_bipush (v := nI 9) (pc' := 19) rfl rfl rfl ?_
    refine wp_callV4 (pc' := 22) rfl rfl rfl rfl rfl (by first | exact TK.k1 hT rfl | exact TK.kk hT rfl | exact TK.r hT rfl | assumption) rfl rfl ?_
    refine m_behind (w := 37) kHands hT hR hp h10 hS (by decide) (by decide) (fun r1 J1 hr1 hJ1 => ?_)
    obtain ⟨q, hq⟩ : ∃ q, skp tv T p = q := ⟨_, rfl⟩
    have hqT := (skp_ge (tv := tv) hp).2
    rw [hq] at hr1 hJ1 hqT kk
    have hb1 : ∀ v z, r1 = some (v, z) → v < 10000 := fun v z h => by rw [h] at hr1; have := (mstN_le hqT (by decide) hr1).2.1; omega
    refine Cont.v ?_
    refine wp_istore2 (pc' := 23) rfl (by first | rfl | assumption) rfl ?_
    refine wp_iload2 (pc' := 24) rfl rfl ?_
    refine wp_ifge (pc' := 27) rfl rfl ?_ ?_
    · intro h24
      refine wp_aload0 (pc' := 32) rfl rfl ?_
      refine wp_pool (v := .ref (lmB + 76)) (pc' := 34) rfl rfl rfl rfl rfl ?_
      refine wp_iconst (v := nI 0) (pc' := 35) rfl rfl rfl ?_
      refine wp_bipush (v := nI 99) (pc' := 37) rfl rfl rfl ?_
      refine wp_callV4 (pc' := 40) rfl rfl rfl rfl rfl (by first | exact TK.k1 hT rfl | exact TK.kk hT rfl | exact TK.r hT rfl | assumption) rfl rfl ?_
      obtain ⟨a, z, hra⟩ := mst_pos h24
      subst hra
      obtain ⟨p1, hp1, hJ1p, hz1⟩ := hJ1.2.2.1 a z rfl
      have hzT := (mstN_le hqT (by decide) hr1).1
      refine m_behind (w := 38) kNeed hT (wn_rd hJ1 hR) hp1 hJ1p (wn_ss hJ1 hS) (by decide) (by decide) (fun r2 J2 hr2 hJ2 => ?_)
      rw [hz1] at hr2 hJ2
      have hb2 : ∀ v z, r2 = some (v, z) → v < 10000 := fun v z h => by rw [h] at hr2; have := (mstN_le hzT (by decide) hr2).2.1; omega
      refine Cont.v ?_
      refine wp_istore3 (pc' := 41) rfl (by first | rfl | assumption) rfl ?_
      refine wp_iload3 (pc' := 42) rfl rfl ?_
      refine wp_ifge (pc' := 45) rfl rfl ?_ ?_
      · intro h42
        refine wp_aload0 (pc' := 48) rfl rfl ?_
        refine wp_pool (v := .ref (lmB + 78)) (pc' := 50) rfl rfl rfl rfl rfl ?_
        refine wp_sipush (v := nI 999) (pc' := 53) rfl rfl rfl ?_
        refine wp_iconst (v := nI 0) (pc' := 54) rfl rfl rfl ?_
        refine wp_callV4 (pc' := 57) rfl rfl rfl rfl rfl (by first | exact TK.k1 hT rfl | exact TK.kk hT rfl | exact TK.r hT rfl | assumption) rfl rfl ?_
        obtain ⟨m, z1, hrm⟩ := mst_pos h42
        subst hrm
        obtain ⟨p2, hp2, hJ2p, hz2⟩ := hJ2.2.2.1 m z1 rfl
        have hzT1 := (mstN_le hzT (by decide) hr2).1
        refine m_told (w := 39) kStore hT (wn_rd hJ2 (wn_rd hJ1 hR)) hp2 hJ2p (wn_ss hJ2 (wn_ss hJ1 hS)) (by decide) (by decide) (fun rt J3 hrt hJ3 => ?_)
        rw [hz2] at hrt hJ3
        have hbt : ∀ v z, rt = some (v, z) → v < 100000000 := fun v z h => by rw [h] at hrt; have := (optN_le hzT1 (by decide) hrt).2; omega
        refine Cont.v ?_
        refine wp_istore4 (pc' := 59) rfl (by first | rfl | assumption) rfl ?_
        refine wp_iload4 (pc' := 61) rfl rfl ?_
        refine wp_pool (v := .int (nI 100000000)) (pc' := 63) rfl rfl rfl rfl rfl ?_
        refine wp_icmpne (pc' := 66) rfl rfl ?_ ?_
        · intro h63
          obtain ⟨y, z2, hrs⟩ := told_s h63
          subst hrs
          have h9x : J3 319 = I 319 := (hJ3.1 319 (by decide)).trans ((hJ2.1 319 (by decide)).trans (hJ1.1 319 (by decide)))
          refine wp_aload0 (pc' := 69) rfl rfl ?_
          refine wp_getRF (pc' := 72) rfl rfl (by first | exact TK.k1 hT rfl | exact TK.kk hT rfl | exact TK.r hT rfl | assumption) (by first | exact TK.k1 hT rfl | exact TK.kk hT rfl | exact TK.r hT rfl | assumption) rfl ?_
          refine wp_iload1 (pc' := 73) rfl rfl ?_
          refine wp_iconst (v := nI 0) (pc' := 74) rfl rfl rfl ?_
          refine wp_callS2 (pc' := 77) rfl rfl rfl rfl rfl rfl ?_
          refine m_hearthAt ?_
          refine Cont.v ?_
          refine wp_iload2 (pc' := 78) rfl rfl ?_
          refine wp_iast _ (pc' := 79) rfl (by first | exact TK.k1 hT rfl | exact TK.kk hT rfl | exact TK.r hT rfl | assumption) (by omega) (by with_reducible rfl) (by omega) (by first | decide | assumption | omega) rfl ?_
          refine wp_aload0 (pc' := 80) rfl rfl ?_
          refine wp_getRF (pc' := 83) rfl rfl (by first | exact TK.k1 hT rfl | exact TK.kk hT rfl | exact TK.r hT rfl | assumption) (by first | exact TK.k1 hT rfl | exact TK.kk hT rfl | exact TK.r hT rfl | assumption) rfl ?_
          refine wp_iload1 (pc' := 84) rfl rfl ?_
          refine wp_iconst (v := nI 1) (pc' := 85) rfl rfl rfl ?_
          refine wp_callS2 (pc' := 88) rfl rfl rfl rfl rfl rfl ?_
          refine m_hearthAt ?_
          refine Cont.v ?_
          refine wp_iload3 (pc' := 89) rfl rfl ?_
          refine wp_iast _ (pc' := 90) rfl (by first | exact TK.k1 hT rfl | exact TK.kk hT rfl | exact TK.r hT rfl | assumption) (by omega) (by with_reducible rfl) (by omega) (by first | decide | assumption | omega) rfl ?_
          refine wp_aload0 (pc' := 91) rfl rfl ?_
          refine wp_getRF (pc' := 94) rfl rfl (by first | exact TK.k1 hT rfl | exact TK.kk hT rfl | exact TK.r hT rfl | assumption) (by first | exact TK.k1 hT rfl | exact TK.kk hT rfl | exact TK.r hT rfl | assumption) rfl ?_
          refine wp_iload1 (pc' := 95) rfl rfl ?_
          refine wp_iconst (v := nI 2) (pc' := 96) rfl rfl rfl ?_
          refine wp_callS2 (pc' := 99) rfl rfl rfl rfl rfl rfl ?_
          refine m_hearthAt ?_
          refine Cont.v ?_
          refine wp_iload4 (pc' := 101) rfl rfl ?_
          refine wp_iast _ (pc' := 102) rfl (by first | exact TK.k1 hT rfl | exact TK.kk hT rfl | exact TK.r hT rfl | assumption) (by omega) (by with_reducible rfl) (by omega) (by first | decide | assumption | omega) rfl ?_
          refine wp_aload0 (pc' := 103) rfl rfl ?_
          refine wp_getRF (pc' := 106) rfl rfl (by first | exact TK.k1 hT rfl | exact TK.kk hT rfl | exact TK.r hT rfl | assumption) (by first | exact TK.k1 hT rfl | exact TK.kk hT rfl | exact TK.r hT rfl | assumption) rfl ?_
          refine wp_iload1 (pc' := 107) rfl rfl ?_
          refine wp_iconst (v := nI 3) (pc' := 108) rfl rfl rfl ?_
          refine wp_callS2 (pc' := 111) rfl rfl rfl rfl rfl rfl ?_
          refine m_hearthAt ?_
          refine Cont.v ?_
          refine wp_iconst (v := nI 0) (pc' := 112) rfl rfl rfl ?_
          refine wp_iast _ (pc' := 113) rfl (by first | exact TK.k1 hT rfl | exact TK.kk hT rfl | exact TK.r hT rfl | assumption) (by omega) (by with_reducible rfl) (by omega) (by first | decide | assumption | omega) rfl ?_
          refine wp_aload0 (pc' := 114) rfl rfl ?_
          refine wp_getRF (pc' := 117) rfl rfl (by first | exact TK.k1 hT rfl | exact TK.kk hT rfl | exact TK.r hT rfl | assumption) (by first | exact TK.k1 hT rfl | exact TK.kk hT rfl | exact TK.r hT rfl | assumption) rfl ?_
          refine wp_iconst (v := nI 0) (pc' := 118) rfl rfl rfl ?_
          refine wp_dup2 (pc' := 119) rfl rfl rfl rfl ?_
          refine wp_iald _ (pc' := 120) rfl (by first | exact TK.k1 hT rfl | exact TK.kk hT rfl | exact TK.r hT rfl | assumption) (by with_reducible rfl) (by omega) (by first | decide | assumption | omega) rfl ?_
          rw [show up2 (up2 (up2 (up2 J3 319 (159 + 4 * H + 0) (numV (some (a, z)))) 319 (159 + 4 * H + 1) (numV (some (m, z1)))) 319 (159 + 4 * H + 2) (toldV (some (y, z2)))) 319 (159 + 4 * H + 3) (nI 0) 319 0 = nI H by simp (disch := omega) only [up2_same, if_neg]; rw [h9x]; exact hw]
          refine wp_iconst (v := nI 1) (pc' := 121) rfl rfl rfl ?_
          first | refine wp_iaddN (pc' := 122) rfl (by with_reducible rfl) (by with_reducible rfl) rfl ?_ | refine wp_iadd (pc' := 122) rfl rfl ?_
          refine wp_iast _ (pc' := 123) rfl (by first | exact TK.k1 hT rfl | exact TK.kk hT rfl | exact TK.r hT rfl | assumption) (by omega) (by with_reducible rfl) (by omega) (by first | decide | assumption | omega) rfl ?_
          refine wp_iconst (v := nI 1) (pc' := 124) rfl rfl rfl ?_
          refine wp_iret rfl rfl (by first | rfl | exact nar_if) ?_
          simp only [up2_as, upr_upr, upr_same]
          rw [h9x]
          exact kk _ _ (whea_3 hH5 hr1 hr2 hrt) (wn_s (wn_wn hJ1 (wn_wn hJ2 hJ3)))
        · intro h63
          refine wp_iconst (v := nI 0) (pc' := 67) rfl rfl rfl ?_
          refine wp_iret rfl rfl (by first | rfl | exact nar_if) ?_
          have hrn := told_n hbt h63
          subst hrn
          exact kk _ _ (whea_2 hH5 hr1 hr2 hrt) (wn_f (wn_wn hJ1 (wn_wn hJ2 hJ3)))
      · intro h42
        refine wp_iconst (v := nI 0) (pc' := 46) rfl rfl rfl ?_
        refine wp_iret rfl rfl (by first | rfl | exact nar_if) ?_
        first | (have hrn := mst_neg hb1 h24; subst hrn; exact kk _ _ (whea_0 hH5 hr1) (wn_f hJ1)) | (have hrn := mst_neg hb2 h42; subst hrn; exact kk _ _ (whea_1 hH5 hr1 hr2) (wn_f (wn_wn hJ1 hJ2)))
    · intro h24
      refine wp_iconst (v := (-1)) (pc' := 28) rfl rfl rfl ?_
      refine wp_goto rfl ?_
      refine wp_istore3 (pc' := 41) rfl (by first | rfl | assumption) rfl ?_
      refine wp_iload3 (pc' := 42) rfl rfl ?_
      refine wp_ifgeF (pc' := 45) rfl (by decide) rfl ?_
      refine wp_iconst (v := nI 0) (pc' := 46) rfl rfl rfl ?_
      refine wp_iret rfl rfl (by first | rfl | exact nar_if) ?_
      first | (have hrn := mst_neg hb1 h24; subst hrn; exact kk _ _ (whea_0 hH5 hr1) (wn_f hJ1)) | (have hrn := mst_neg hb2 h42; subst hrn; exact kk _ _ (whea_1 hH5 hr1 hr2) (wn_f (wn_wn hJ1 hJ2)))
  · intro h8
    refine wp_iconst (v := nI 0) (pc' := 12) rfl rfl rfl ?_
    refine wp_iret rfl rfl (by first | rfl | exact nar_if) ?_
    exact kk _ _ (whea_6 (by rw [show H = 6 from eq_nI h8 (by omega) (by decide)]; exact Nat.le_refl _)) ⟨fun _ _ _ => rfl, fun _ _ _ => rfl, fun q => absurd (show false = true from q) (by decide), fun _ => h12⟩
def wlRgt (tv : Nat → Nat) (T : Nat) (w : Nat → Int32) (p H : Nat) : Bool × (Nat → Int32) × Nat := match numR tv T p (nI 0) (nI H - nI 1) with
  | none => (false, w, p)
  | some y => (match (celL tv T y.2).1 with
    | none => (false, w, (celL tv T y.2).2)
    | some x => (true, up1 w (159 + 4 * y.1 + 3) (w (159 + 4 * y.1 + 3) ||| x), (celL tv T y.2).2))
theorem wrgt_0 {tv : Nat → Nat} {T p H : Nat} {w : Nat → Int32} (h : numR tv T p (nI 0) (nI H - nI 1) = none) : wlRgt tv T w p H = (false, w, p) := by unfold wlRgt; rw [h]
theorem wrgt_1 {tv : Nat → Nat} {T p H v z z2 : Nat} {w : Nat → Int32} (h : numR tv T p (nI 0) (nI H - nI 1) = some (v, z)) (h2 : celL tv T z = (none, z2)) : wlRgt tv T w p H = (false, w, z2) := by unfold wlRgt; rw [h]; dsimp only; rw [h2]
theorem wrgt_2 {tv : Nat → Nat} {T p H v z z2 : Nat} {w : Nat → Int32} {x : Int32} (h : numR tv T p (nI 0) (nI H - nI 1) = some (v, z)) (h2 : celL tv T z = (some x, z2)) : wlRgt tv T w p H = (true, up1 w (159 + 4 * v + 3) (w (159 + 4 * v + 3) ||| x), z2) := by unfold wlRgt; rw [h]; dsimp only; rw [h2]
theorem lt_Hm {H v : Nat} (hH : H ≤ 6) (hv : v < 10000) (h : ¬ nI H - nI 1 < nI v) : v < H := by
  by_cases e : H = 0
  · subst e; exact absurd (m1_lt (by omega)) h
  · rw [nI_sub (by omega)] at h
    have := ge_nI h (by omega)
    omega

theorem m_readRight {d : Nat} {K : Nat → Nat × Nat} {I : Nat → Nat → Int32} {L : Nat → Nat → Int64} {R : Nat → Nat → Option Nat} {n s : Nat} {Q : Lo → Lm → Prop} {T p H : Nat} {tv : Nat → Nat} (hT : TK K R n) (hR : RfI I T tv) (hp : p ≤ T) (h10 : I 318 10 = nI p) (hw : I 319 0 = nI H) (hH6 : H ≤ 6) (kk : ∀ r J, wlRgt tv T (I 319) (skp tv T p) H = r → RdJ T tv I r J → Q (.inl (some (.int (if r.1 = true then nI 1 else nI 0)))) (K, J, L, R, n, s)) : Ok (d + 5) 240 [.ref 318] (K, I, L, R, n, s) Q := by
  obtain ⟨-, -, hn⟩ := id hT
  refine Ok.enter (F := F_240) (ls := [.ref 318, lDead, lDead]) rfl rfl ?_
  refine wp_aload0 (pc' := 1) rfl rfl ?_
  refine wp_iconst (v := nI 0) (pc' := 2) rfl rfl rfl ?_
  refine wp_aload0 (pc' := 3) rfl rfl ?_
  refine wp_callV1 (pc' := 6) rfl rfl rfl rfl rfl (by first | exact TK.k1 hT rfl | exact TK.kk hT rfl | exact TK.r hT rfl | assumption) rfl rfl ?_
  refine m_hearths hT hw ?_
  refine Cont.v ?_
  refine wp_iconst (v := nI 1) (pc' := 7) rfl rfl rfl ?_
  refine wp_isub (pc' := 8) rfl rfl ?_
  refine wp_callV3 (pc' := 11) rfl rfl rfl rfl rfl (by first | exact TK.k1 hT rfl | exact TK.kk hT rfl | exact TK.r hT rfl | assumption) rfl rfl ?_
  refine m_numberJ hT hR hp h10 (fun J e hE hJ => ?_)
  obtain ⟨q, hq⟩ : ∃ q, skp tv T p = q := ⟨_, rfl⟩
  have hqT := (skp_ge (tv := tv) hp).2
  rw [hq] at hE hJ hqT kk ⊢
  refine Cont.v ?_
  refine wp_istore1 (pc' := 12) rfl (by first | rfl | assumption) rfl ?_
  refine wp_iload1 (pc' := 13) rfl rfl ?_
  refine wp_ifge (pc' := 16) rfl rfl ?_ ?_
  · intro h13
    refine wp_aload0 (pc' := 21) rfl rfl ?_
    refine wp_callV1 (pc' := 24) rfl rfl rfl rfl rfl (by first | exact TK.k1 hT rfl | exact TK.kk hT rfl | exact TK.r hT rfl | assumption) rfl rfl ?_
    obtain ⟨v, z, hN, hv, hv1, hvH, hqz, hzT⟩ := num_pos hqT h13
    have hzz := nu_ok hE hN
    have hvl := lt_Hm hH6 hv hvH
    rw [hN]
    refine m_cellsTold hT (tk_rd hJ hR) hzz.1 hJ.2.2.1 (fun rc J2 hrc hJ2 => ?_)
    rw [hzz.2] at hrc
    refine Cont.v ?_
    refine wp_istore2 (pc' := 25) rfl (by first | rfl | assumption) rfl ?_
    refine wp_iload2 (pc' := 26) rfl rfl ?_
    first | refine wp_ifneB (pc' := 29) rfl rfl ?_ ?_ | refine wp_ifne (pc' := 29) rfl rfl ?_ ?_
    · intro h26
      refine wp_aload0 (pc' := 32) rfl rfl ?_
      refine wp_getRF (pc' := 35) rfl rfl (by first | exact TK.k1 hT rfl | exact TK.kk hT rfl | exact TK.r hT rfl | assumption) (by first | exact TK.k1 hT rfl | exact TK.kk hT rfl | exact TK.r hT rfl | assumption) rfl ?_
      refine wp_iload1 (pc' := 36) rfl rfl ?_
      refine wp_iconst (v := nI 3) (pc' := 37) rfl rfl rfl ?_
      refine wp_callS2 (pc' := 40) rfl rfl rfl rfl rfl rfl ?_
      refine m_hearthAt ?_
      refine Cont.v ?_
      refine wp_dup2 (pc' := 41) rfl rfl rfl rfl ?_
      refine wp_iald _ (pc' := 42) rfl (by first | exact TK.k1 hT rfl | exact TK.kk hT rfl | exact TK.r hT rfl | assumption) (by with_reducible rfl) (by omega) (by first | decide | assumption | omega) rfl ?_
      rw [hJ2.1 319 (by decide), hJ.1 319 (by decide)]
      refine wp_iload2 (pc' := 43) rfl rfl ?_
      refine wp_ior (pc' := 44) rfl rfl ?_
      refine wp_iast _ (pc' := 45) rfl (by first | exact TK.k1 hT rfl | exact TK.kk hT rfl | exact TK.r hT rfl | assumption) (by omega) (by with_reducible rfl) (by omega) (by first | decide | assumption | omega) rfl ?_
      refine wp_iconst (v := nI 1) (pc' := 46) rfl rfl rfl ?_
      refine wp_iret rfl rfl (by first | rfl | exact nar_if) ?_
      have e2 := celZ_1 h26
      rw [e2] at hrc hJ2
      rw [up2_as, hJ2.1 319 (by decide), hJ.1 319 (by decide)]
      exact kk _ _ (wrgt_2 hN hrc) (tk_up hJ (rd_ces hJ2))
    · intro h26
      refine wp_iconst (v := nI 0) (pc' := 30) rfl rfl rfl ?_
      refine wp_iret rfl rfl (by first | rfl | exact nar_if) ?_
      first | (have hN := num_neg hqT h13; exact kk _ _ (wrgt_0 hN) (rd_f hJ)) | (have e := celZ_0 hzT hrc h26; rw [e] at hrc hJ2; have hx := rd_cef (w := I 319) (g := J2 319) hJ2; rw [upr_id] at hx; exact kk _ _ (wrgt_1 hN hrc) (tk_up hJ hx))
  · intro h13
    refine wp_iconst (v := nI 0) (pc' := 17) rfl rfl rfl ?_
    refine wp_goto rfl ?_
    refine wp_istore2 (pc' := 25) rfl (by first | rfl | assumption) rfl ?_
    refine wp_iload2 (pc' := 26) rfl rfl ?_
    refine wp_ifneF (pc' := 29) rfl rfl rfl ?_
    refine wp_iconst (v := nI 0) (pc' := 30) rfl rfl rfl ?_
    refine wp_iret rfl rfl (by first | rfl | exact nar_if) ?_
    first | (have hN := num_neg hqT h13; exact kk _ _ (wrgt_0 hN) (rd_f hJ)) | (have e := celZ_0 hzT hrc h26; rw [e] at hrc hJ2; have hx := rd_cef (w := I 319) (g := J2 319) hJ2; rw [upr_id] at hx; exact kk _ _ (wrgt_1 hN hrc) (tk_up hJ hx))
theorem m_readRain {d : Nat} {K : Nat → Nat × Nat} {I : Nat → Nat → Int32} {L : Nat → Nat → Int64} {R : Nat → Nat → Option Nat} {n s : Nat} {Q : Lo → Lm → Prop}  (hT : TK K R n) (kk : Q (.inl (some (.int (nI 1)))) (K, upr I 319 (up1 (I 319) 5 (nI 1)), L, R, n, s)) : Ok (d + 1) 242 [.ref 318] (K, I, L, R, n, s) Q := by
  obtain ⟨-, -, hn⟩ := id hT
  refine Ok.enter (F := F_242) (ls := [.ref 318]) rfl rfl ?_
  refine wp_aload0 (pc' := 1) rfl rfl ?_
  refine wp_getRF (pc' := 4) rfl rfl (by first | exact TK.k1 hT rfl | exact TK.kk hT rfl | exact TK.r hT rfl | assumption) (by first | exact TK.k1 hT rfl | exact TK.kk hT rfl | exact TK.r hT rfl | assumption) rfl ?_
  refine wp_iconst (v := nI 5) (pc' := 5) rfl rfl rfl ?_
  refine wp_iconst (v := nI 1) (pc' := 6) rfl rfl rfl ?_
  refine wp_iast _ (pc' := 7) rfl (by first | exact TK.k1 hT rfl | exact TK.kk hT rfl | exact TK.r hT rfl | assumption) (by omega) (by with_reducible rfl) (by omega) (by first | decide | assumption | omega) rfl ?_
  refine wp_iconst (v := nI 1) (pc' := 8) rfl rfl rfl ?_
  refine wp_iret rfl rfl (by first | rfl | exact nar_if) ?_
  rw [up2_as]
  exact kk
