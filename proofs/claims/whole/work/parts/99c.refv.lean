/-! THE REFERENCE: lines of the bog's text -/
def wlRowF (tv : Nat → Nat) (T k : Nat) : Nat → Nat → (Nat → Int32) → Nat → Bool × (Nat → Int32) × Nat
  | 0, _, w, p => (false, w, p)
  | f + 1, c, w, p => match numR tv T p (nI 0) (nI 9) with
    | none => (false, w, p)
    | some x => if atDg tv T x.2 then wlRowF tv T k f (c + 1) (up1 w (9 + 6 * c + k) (nI x.1)) x.2 else (true, up1 w (9 + 6 * c + k) (nI x.1), x.2)
def wlRow (tv : Nat → Nat) (T k : Nat) (w : Nat → Int32) (p : Nat) : Bool × (Nat → Int32) × Nat := match numR tv T p (nI 0) (nI 24) with
  | none => (false, w, p)
  | some x => wlRowF tv T k (25 - x.1) x.1 w x.2
theorem wrow_n {tv : Nat → Nat} {T k f c p : Nat} {w : Nat → Int32} (h : numR tv T p (nI 0) (nI 9) = none) : wlRowF tv T k (f + 1) c w p = (false, w, p) := by rw [wlRowF, h]
theorem wrow_s {tv : Nat → Nat} {T k f c p v z : Nat} {w : Nat → Int32} (h : numR tv T p (nI 0) (nI 9) = some (v, z)) : wlRowF tv T k (f + 1) c w p = if atDg tv T z then wlRowF tv T k f (c + 1) (up1 w (9 + 6 * c + k) (nI v)) z else (true, up1 w (9 + 6 * c + k) (nI v), z) := by rw [wlRowF, h]
theorem wrw_n {tv : Nat → Nat} {T k p : Nat} {w : Nat → Int32} (h : numR tv T p (nI 0) (nI 24) = none) : wlRow tv T k w p = (false, w, p) := by unfold wlRow; rw [h]
theorem wrw_s {tv : Nat → Nat} {T k p v z : Nat} {w : Nat → Int32} (h : numR tv T p (nI 0) (nI 24) = some (v, z)) : wlRow tv T k w p = wlRowF tv T k (25 - v) v w z := by unfold wlRow; rw [h]
def RoI (T : Nat) (tv : Nat → Nat) (I : Mem) (r : Bool × (Nat → Int32) × Nat) (k c : Nat) (xc : Int32) (g f : Bool) (J : Mem) : Prop := (∀ a, a ≠ 318 → a ≠ 319 → J a = I a) ∧ (∀ j, j ≠ 10 → j ≠ 12 → J 318 j = I 318 j) ∧ (f = true → xc = nI c ∧ c ≤ 25 ∧ ∃ p, p ≤ T ∧ J 318 10 = nI p ∧ wlRowF tv T k (25 - c) c (J 319) (skp tv T p) = r) ∧ (f = false → RdJ T tv I r J ∧ g = r.1)
theorem row_bad {T k c q : Nat} {tv : Nat → Nat} {I J N : Mem} {r : Bool × (Nat → Int32) × Nat} {w : Nat → Int32} (hcr : wlRowF tv T k (25 - c) c w q = r) (hc : c ≤ 25) (hq : q ≤ T) (h : numV (numR tv T q (nI 0) (nI 9)) < nI 0 ∨ 25 ≤ c) (h1 : ∀ a, a ≠ 318 → a ≠ 319 → J a = I a) (h2 : ∀ j, j ≠ 10 → j ≠ 12 → J 318 j = I 318 j) (h3 : J 318 12 = nI q) : RdJ T tv I r J ∧ false = r.1 := by
  have : r = (false, w, q) := by
    by_cases e : c = 25
    · rw [← hcr, e, Nat.sub_self]; rfl
    · rw [← hcr, show 25 - c = (25 - (c + 1)) + 1 by omega, wrow_n (num_neg hq (h.resolve_right (by omega)))]
  subst this
  exact ⟨⟨h1, h2, fun q => absurd (show false = true from q) (by decide), fun _ => h3⟩, rfl⟩

theorem m_readCells {d : Nat} {K : Nat → Nat × Nat} {I : Nat → Nat → Int32} {L : Nat → Nat → Int64} {R : Nat → Nat → Option Nat} {n s : Nat} {Q : Lo → Lm → Prop} {T p k : Nat} {tv : Nat → Nat} (hT : TK K R n) (hR : RfI I T tv) (hp : p ≤ T) (h10 : I 318 10 = nI p) (hk : k ≤ 1) (kk : ∀ r J, wlRow tv T k (I 319) (skp tv T p) = r → RdJ T tv I r J → Q (.inl (some (.int (if r.1 = true then nI 1 else nI 0)))) (K, J, L, R, n, s)) : Ok (d + 4) 228 [.ref 318, .int (nI k)] (K, I, L, R, n, s) Q := by
  obtain ⟨-, -, hn⟩ := id hT
  obtain ⟨rq, hr⟩ : ∃ r, wlRow tv T k (I 319) (skp tv T p) = r := ⟨_, rfl⟩
  refine Ok.enter (F := F_228) (ls := [.ref 318, .int (nI k), lDead, lDead, lDead, lDead]) rfl rfl ?_
  refine wp_aload0 (pc' := 1) rfl rfl ?_
  refine wp_iconst (v := nI 0) (pc' := 2) rfl rfl rfl ?_
  refine wp_bipush (v := nI 24) (pc' := 4) rfl rfl rfl ?_
  refine wp_callV3 (pc' := 7) rfl rfl rfl rfl rfl (by first | exact TK.k1 hT rfl | exact TK.kk hT rfl | exact TK.r hT rfl | assumption) rfl rfl ?_
  refine m_numberJ hT hR hp h10 (fun J0 e0 hE0 hJ0 => ?_)
  obtain ⟨q0, hq0⟩ : ∃ q, skp tv T p = q := ⟨_, rfl⟩
  have hqT0 := (skp_ge (tv := tv) hp).2
  rw [hq0] at hE0 hJ0 hqT0 ⊢
  refine Cont.v ?_
  refine wp_istore2 (pc' := 8) rfl (by first | rfl | assumption) rfl ?_
  refine wp_iload2 (pc' := 9) rfl rfl ?_
  refine wp_iflt (pc' := 12) rfl rfl ?_ ?_
  · intro h9
    refine wp_iconst (v := nI 0) (pc' := 17) rfl rfl rfl ?_
    refine wp_istore3 (pc' := 18) rfl (by first | rfl | assumption) rfl ?_
    refine wp_iload3 (pc' := 19) rfl rfl ?_
    refine wp_istore4 (pc' := 21) rfl (by first | rfl | assumption) rfl ?_
    have lp21 : ∀ r (c : Nat) (xc : Int32) (g f : Bool) (J : Mem) (v5 : Value), c + r = 27 → RoI T tv I rq k c xc g f J → isL v5 = false → WP (d + 3) F_228 21 [.ref 318, .int (nI k), .int xc, .int (if g = true then nI 1 else nI 0), .int (if f = true then nI 1 else nI 0), v5] [] (K, J, L, R, n, s) Q := by
      intro r; induction r with
      | zero =>
        intro c xc g f J v5 hi hv0 hv1
        have h23 : ¬ f = true := fun q => absurd (hv0.2.2.1 q).2.1 (by omega)
        refine wp_iload4 (pc' := 23) rfl rfl ?_
        refine wp_ifeqT rfl (if_neg h23) ?_
        refine wp_iload3 (pc' := 93) rfl rfl ?_
        refine wp_iret rfl rfl (by first | rfl | exact nar_if) ?_
        have hfin := hv0.2.2.2 (Bool.eq_false_iff.mpr h23)
        exact Qv (kk rq J hr hfin.1) (by rw [hfin.2]) rfl
      | succ r ih =>
        intro c xc g f J v5 hi hv0 hv1
        refine wp_iload4 (pc' := 23) rfl rfl ?_
        first | refine wp_ifeqB (pc' := 26) rfl rfl ?_ ?_ | refine wp_ifeq (pc' := 26) rfl rfl ?_ ?_
        · intro h23
          refine wp_iload3 (pc' := 93) rfl rfl ?_
          refine wp_iret rfl rfl (by first | rfl | exact nar_if) ?_
          have hfin := hv0.2.2.2 (Bool.eq_false_iff.mpr h23)
          exact Qv (kk rq J hr hfin.1) (by rw [hfin.2]) rfl
        · intro h23
          refine wp_aload0 (pc' := 27) rfl rfl ?_
          refine wp_iconst (v := nI 0) (pc' := 28) rfl rfl rfl ?_
          refine wp_bipush (v := nI 9) (pc' := 30) rfl rfl rfl ?_
          refine wp_callV3 (pc' := 33) rfl rfl rfl rfl rfl (by first | exact TK.k1 hT rfl | exact TK.kk hT rfl | exact TK.r hT rfl | assumption) rfl rfl ?_
          obtain ⟨hxc, hc25, p2, hp2, hJp, hcr⟩ := hv0.2.2.1 h23
          subst hxc
          have hRJ : RfI J T tv := ⟨by rw [hv0.2.1 11 (by decide) (by decide)]; exact hR.1, hR.2.1, by rw [hv0.1 324 (by decide) (by decide)]; exact hR.2.2⟩
          refine m_numberJ hT hRJ hp2 hJp (fun J2 e hE hJ2 => ?_)
          obtain ⟨q, hq⟩ : ∃ q, skp tv T p2 = q := ⟨_, rfl⟩
          have hqT := (skp_ge (tv := tv) hp2).2
          rw [hq] at hE hJ2 hqT hcr ⊢
          have hF1 : ∀ a, a ≠ 318 → a ≠ 319 → J2 a = I a := fun a ha hb => (hJ2.1 a ha).trans (hv0.1 a ha hb)
          have hF2 : ∀ j, j ≠ 10 → j ≠ 12 → J2 318 j = I 318 j := fun j a1 a2 => (hJ2.2.1 j a1 a2).trans (hv0.2.1 j a1 a2)
          refine Cont.v ?_
          refine wp_istore5 (pc' := 35) rfl (by first | rfl | assumption) rfl ?_
          refine wp_iload5 (pc' := 37) rfl rfl ?_
          refine wp_iflt (pc' := 40) rfl rfl ?_ ?_
          · intro h37
            refine wp_iconst (v := nI 0) (pc' := 51) rfl rfl rfl ?_
            refine wp_istore3 (pc' := 52) rfl (by first | rfl | assumption) rfl ?_
            refine wp_iload3 (pc' := 53) rfl rfl ?_
            refine wp_ifeqT rfl rfl ?_
            first | refine wp_iinc2 (w := nI 1) (pc' := 71) rfl rfl rfl (by with_reducible exact nI_add _ _) rfl ?_ | refine wp_iinc2 (w := nI 1) (pc' := 71) rfl rfl rfl rfl rfl ?_
            refine wp_iload3 (pc' := 72) rfl rfl ?_
            refine wp_ifeqT rfl rfl ?_
            refine wp_iconst (v := nI 0) (pc' := 87) rfl rfl rfl ?_
            refine wp_istore4 (pc' := 89) rfl (by first | rfl | assumption) rfl ?_
            refine wp_goto rfl ?_
            first
              | exact WP.cg (ih (c + 1) _ true true _ _ (by omega) ⟨hG1, hG2, fun _ => ⟨rfl, by omega, z, hzT, hJ3.2.2.1, by rw [hG9, ← hzz.2, skp_sk hzz.1, hzz.2]; rw [if_pos h79] at hcr; exact hcr⟩, fun q => absurd q (by decide)⟩ (by first | rfl | assumption)) (lC1 (lI1 rfl (lI1 rfl (lI1 rfl (lI1 rfl (lC1 rfl)))))) rfl rfl
              | exact WP.cg (ih (c + 1) _ true false _ _ (by omega) ⟨hG1, hG2, fun q => absurd q (by decide), fun _ => by rw [if_neg h79] at hcr; rw [← hcr]; exact ⟨⟨hG1, hG2, fun _ => ⟨hG9, z, hzT, hJ3.2.2.1, by rw [← hzz.2, skp_sk hzz.1]⟩, fun q => absurd (show true = false from q) (by decide)⟩, rfl⟩⟩ (by first | rfl | assumption)) (lC1 (lI1 rfl (lI1 rfl (lI1 rfl (lI1 rfl (lC1 rfl)))))) rfl rfl
              | exact WP.cg (ih (c + 1) _ false false _ _ (by omega) ⟨hF1, hF2, fun q => absurd q (by decide), fun _ => row_bad (N := J) hcr hc25 hqT (Or.inl h37) hF1 hF2 hJ2.2.2.2⟩ (by first | rfl | assumption)) (lC1 (lI1 rfl (lI1 rfl (lI1 rfl (lI1 rfl (lC1 rfl)))))) rfl rfl
              | exact WP.cg (ih (c + 1) _ false false _ _ (by omega) ⟨hF1, hF2, fun q => absurd q (by decide), fun _ => row_bad (N := J) hcr hc25 hqT (Or.inr (ge_nI h43 (by omega))) hF1 hF2 hJ2.2.2.2⟩ (by first | rfl | assumption)) (lC1 (lI1 rfl (lI1 rfl (lI1 rfl (lI1 rfl (lC1 rfl)))))) rfl rfl
          · intro h37
            skip
            refine wp_iload2 (pc' := 41) rfl rfl ?_
            refine wp_bipush (v := nI 25) (pc' := 43) rfl rfl rfl ?_
            refine wp_icmpge (pc' := 46) rfl rfl ?_ ?_
            · intro h43
              refine wp_iconst (v := nI 0) (pc' := 51) rfl rfl rfl ?_
              refine wp_istore3 (pc' := 52) rfl (by first | rfl | assumption) rfl ?_
              refine wp_iload3 (pc' := 53) rfl rfl ?_
              refine wp_ifeqT rfl rfl ?_
              first | refine wp_iinc2 (w := nI 1) (pc' := 71) rfl rfl rfl (by with_reducible exact nI_add _ _) rfl ?_ | refine wp_iinc2 (w := nI 1) (pc' := 71) rfl rfl rfl rfl rfl ?_
              refine wp_iload3 (pc' := 72) rfl rfl ?_
              refine wp_ifeqT rfl rfl ?_
              refine wp_iconst (v := nI 0) (pc' := 87) rfl rfl rfl ?_
              refine wp_istore4 (pc' := 89) rfl (by first | rfl | assumption) rfl ?_
              refine wp_goto rfl ?_
              first
                | exact WP.cg (ih (c + 1) _ true true _ _ (by omega) ⟨hG1, hG2, fun _ => ⟨rfl, by omega, z, hzT, hJ3.2.2.1, by rw [hG9, ← hzz.2, skp_sk hzz.1, hzz.2]; rw [if_pos h79] at hcr; exact hcr⟩, fun q => absurd q (by decide)⟩ (by first | rfl | assumption)) (lC1 (lI1 rfl (lI1 rfl (lI1 rfl (lI1 rfl (lC1 rfl)))))) rfl rfl
                | exact WP.cg (ih (c + 1) _ true false _ _ (by omega) ⟨hG1, hG2, fun q => absurd q (by decide), fun _ => by rw [if_neg h79] at hcr; rw [← hcr]; exact ⟨⟨hG1, hG2, fun _ => ⟨hG9, z, hzT, hJ3.2.2.1, by rw [← hzz.2, skp_sk hzz.1]⟩, fun q => absurd (show true = false from q) (by decide)⟩, rfl⟩⟩ (by first | rfl | assumption)) (lC1 (lI1 rfl (lI1 rfl (lI1 rfl (lI1 rfl (lC1 rfl)))))) rfl rfl
                | exact WP.cg (ih (c + 1) _ false false _ _ (by omega) ⟨hF1, hF2, fun q => absurd q (by decide), fun _ => row_bad (N := J) hcr hc25 hqT (Or.inl h37) hF1 hF2 hJ2.2.2.2⟩ (by first | rfl | assumption)) (lC1 (lI1 rfl (lI1 rfl (lI1 rfl (lI1 rfl (lC1 rfl)))))) rfl rfl
                | exact WP.cg (ih (c + 1) _ false false _ _ (by omega) ⟨hF1, hF2, fun q => absurd q (by decide), fun _ => row_bad (N := J) hcr hc25 hqT (Or.inr (ge_nI h43 (by omega))) hF1 hF2 hJ2.2.2.2⟩ (by first | rfl | assumption)) (lC1 (lI1 rfl (lI1 rfl (lI1 rfl (lI1 rfl (lC1 rfl)))))) rfl rfl
            · intro h43
              refine wp_iconst (v := nI 1) (pc' := 47) rfl rfl rfl ?_
              refine wp_goto rfl ?_
              refine wp_istore3 (pc' := 52) rfl (by first | rfl | assumption) rfl ?_
              refine wp_iload3 (pc' := 53) rfl rfl ?_
              refine wp_ifeqF (pc' := 56) rfl (by decide) rfl ?_
              have hc9a := nI_lt_inv (by omega) (by omega) h43
              refine wp_aload0 (pc' := 57) rfl rfl ?_
              refine wp_getRF (pc' := 60) rfl rfl (by first | exact TK.k1 hT rfl | exact TK.kk hT rfl | exact TK.r hT rfl | assumption) (by first | exact TK.k1 hT rfl | exact TK.kk hT rfl | exact TK.r hT rfl | assumption) rfl ?_
              refine wp_iload2 (pc' := 61) rfl rfl ?_
              refine wp_iload1 (pc' := 62) rfl rfl ?_
              refine wp_callS2 (pc' := 65) rfl rfl rfl rfl rfl rfl ?_
              refine m_at ?_
              refine Cont.v ?_
              refine wp_iload5 (pc' := 67) rfl rfl ?_
              refine wp_iast _ (pc' := 68) rfl (by first | exact TK.k1 hT rfl | exact TK.kk hT rfl | exact TK.r hT rfl | assumption) (by omega) (by with_reducible rfl) (by omega) (by first | decide | assumption | omega) rfl ?_
              first | refine wp_iinc2 (w := nI 1) (pc' := 71) rfl rfl rfl (by with_reducible exact nI_add _ _) rfl ?_ | refine wp_iinc2 (w := nI 1) (pc' := 71) rfl rfl rfl rfl rfl ?_
              refine wp_iload3 (pc' := 72) rfl rfl ?_
              refine wp_ifeqF (pc' := 75) rfl (by decide) rfl ?_
              refine wp_aload0 (pc' := 76) rfl rfl ?_
              refine wp_callV1 (pc' := 79) rfl rfl rfl rfl rfl (by first | exact TK.k1 hT rfl | exact TK.kk hT rfl | exact TK.r hT rfl | assumption) rfl rfl ?_
              obtain ⟨v, z, hN, hv, hv1, hv24, hqz, hzT⟩ := num_pos hqT h37
              have hzz := nu_ok hE hN
              have hc9 := nI_lt_inv (by omega) (by omega) h43
              rw [up2_as, hJ2.1 319 (by decide), hN]
              obtain ⟨J4, hJ4⟩ : ∃ J4, J4 = upr J2 319 (up1 (J 319) (9 + 6 * c + k) (nI v)) := ⟨_, rfl⟩
              change Ok _ _ _ (K, upr J2 319 (up1 (J 319) (9 + 6 * c + k) (nI v)), L, R, n, s) _
              rw [← hJ4]
              have hJ4a : ∀ a, a ≠ 319 → J4 a = J2 a := fun a ha => by rw [hJ4]; exact upr_ne ha
              have hRJ4 : RfI J4 T tv := ⟨by rw [hJ4a 318 (by decide), hF2 11 (by decide) (by decide)]; exact hR.1, hR.2.1, by rw [hJ4a 324 (by decide), hF1 324 (by decide) (by decide)]; exact hR.2.2⟩
              refine m_isNumNextJ hT hRJ4 hzz.1 (by rw [hJ4a 318 (by decide)]; exact hJ2.2.2.1) (fun J3 hJ3 => ?_)
              rw [hzz.2] at hJ3 ⊢
              have hG1 : ∀ a, a ≠ 318 → a ≠ 319 → J3 a = I a := fun a ha hb => (hJ3.1 a ha).trans ((hJ4a a hb).trans (hF1 a ha hb))
              have hG2 : ∀ j, j ≠ 10 → j ≠ 12 → J3 318 j = I 318 j := fun j a1 a2 => (hJ3.2.1 j a1 a2).trans (by rw [hJ4a 318 (by decide)]; exact hF2 j a1 a2)
              have hG9 : J3 319 = up1 (J 319) (9 + 6 * c + k) (nI v) := (hJ3.1 319 (by decide)).trans (by rw [hJ4, upr_same])
              rw [show 25 - c = (25 - (c + 1)) + 1 by omega, wrow_s hN] at hcr
              refine Cont.v ?_
              first | refine wp_ifeqB (pc' := 82) rfl rfl ?_ ?_ | refine wp_ifeq (pc' := 82) rfl rfl ?_ ?_
              · intro h79
                refine wp_iconst (v := nI 0) (pc' := 87) rfl rfl rfl ?_
                refine wp_istore4 (pc' := 89) rfl (by first | rfl | assumption) rfl ?_
                refine wp_goto rfl ?_
                first
                  | exact WP.cg (ih (c + 1) _ true true _ _ (by omega) ⟨hG1, hG2, fun _ => ⟨rfl, by omega, z, hzT, hJ3.2.2.1, by rw [hG9, ← hzz.2, skp_sk hzz.1, hzz.2]; rw [if_pos h79] at hcr; exact hcr⟩, fun q => absurd q (by decide)⟩ (by first | rfl | assumption)) (lC1 (lI1 rfl (lI1 rfl (lI1 rfl (lI1 rfl (lC1 rfl)))))) rfl rfl
                  | exact WP.cg (ih (c + 1) _ true false _ _ (by omega) ⟨hG1, hG2, fun q => absurd q (by decide), fun _ => by rw [if_neg h79] at hcr; rw [← hcr]; exact ⟨⟨hG1, hG2, fun _ => ⟨hG9, z, hzT, hJ3.2.2.1, by rw [← hzz.2, skp_sk hzz.1]⟩, fun q => absurd (show true = false from q) (by decide)⟩, rfl⟩⟩ (by first | rfl | assumption)) (lC1 (lI1 rfl (lI1 rfl (lI1 rfl (lI1 rfl (lC1 rfl)))))) rfl rfl
                  | exact WP.cg (ih (c + 1) _ false false _ _ (by omega) ⟨hF1, hF2, fun q => absurd q (by decide), fun _ => row_bad (N := J) hcr hc25 hqT (Or.inl h37) hF1 hF2 hJ2.2.2.2⟩ (by first | rfl | assumption)) (lC1 (lI1 rfl (lI1 rfl (lI1 rfl (lI1 rfl (lC1 rfl)))))) rfl rfl
                  | exact WP.cg (ih (c + 1) _ false false _ _ (by omega) ⟨hF1, hF2, fun q => absurd q (by decide), fun _ => row_bad (N := J) hcr hc25 hqT (Or.inr (ge_nI h43 (by omega))) hF1 hF2 hJ2.2.2.2⟩ (by first | rfl | assumption)) (lC1 (lI1 rfl (lI1 rfl (lI1 rfl (lI1 rfl (lC1 rfl)))))) rfl rfl
              · intro h79
                refine wp_iconst (v := nI 1) (pc' := 83) rfl rfl rfl ?_
                refine wp_goto rfl ?_
                refine wp_istore4 (pc' := 89) rfl (by first | rfl | assumption) rfl ?_
                refine wp_goto rfl ?_
                first
                  | exact WP.cg (ih (c + 1) _ true true _ _ (by omega) ⟨hG1, hG2, fun _ => ⟨rfl, by omega, z, hzT, hJ3.2.2.1, by rw [hG9, ← hzz.2, skp_sk hzz.1, hzz.2]; rw [if_pos h79] at hcr; exact hcr⟩, fun q => absurd q (by decide)⟩ (by first | rfl | assumption)) (lC1 (lI1 rfl (lI1 rfl (lI1 rfl (lI1 rfl (lC1 rfl)))))) rfl rfl
                  | exact WP.cg (ih (c + 1) _ true false _ _ (by omega) ⟨hG1, hG2, fun q => absurd q (by decide), fun _ => by rw [if_neg h79] at hcr; rw [← hcr]; exact ⟨⟨hG1, hG2, fun _ => ⟨hG9, z, hzT, hJ3.2.2.1, by rw [← hzz.2, skp_sk hzz.1]⟩, fun q => absurd (show true = false from q) (by decide)⟩, rfl⟩⟩ (by first | rfl | assumption)) (lC1 (lI1 rfl (lI1 rfl (lI1 rfl (lI1 rfl (lC1 rfl)))))) rfl rfl
                  | exact WP.cg (ih (c + 1) _ false false _ _ (by omega) ⟨hF1, hF2, fun q => absurd q (by decide), fun _ => row_bad (N := J) hcr hc25 hqT (Or.inl h37) hF1 hF2 hJ2.2.2.2⟩ (by first | rfl | assumption)) (lC1 (lI1 rfl (lI1 rfl (lI1 rfl (lI1 rfl (lC1 rfl)))))) rfl rfl
                  | exact WP.cg (ih (c + 1) _ false false _ _ (by omega) ⟨hF1, hF2, fun q => absurd q (by decide), fun _ => row_bad (N := J) hcr hc25 hqT (Or.inr (ge_nI h43 (by omega))) hF1 hF2 hJ2.2.2.2⟩ (by first | rfl | assumption)) (lC1 (lI1 rfl (lI1 rfl (lI1 rfl (lI1 rfl (lC1 rfl)))))) rfl rfl
    first
      | (obtain ⟨v, z, hN, hv, hv1, hv24, hqz, hzT⟩ := num_pos hqT0 h9
         have hzz := nu_ok hE0 hN
         have hvl : v ≤ 24 := ge_nI hv24 (by omega)
         rw [hq0, wrw_s hN] at hr
         rw [hN]
         exact WP.cg (lp21 (27 - v) v _ true true J0 _ (by omega) ⟨fun a ha _ => hJ0.1 a ha, hJ0.2.1, fun _ => ⟨rfl, by omega, e0, hzz.1, hJ0.2.2.1, by rw [hJ0.1 319 (by decide), hzz.2]; exact hr⟩, fun q => absurd q (by decide)⟩ (by first | rfl | assumption)) (lC1 (lI1 rfl (lI1 rfl (lI1 rfl (lI1 rfl (lC1 rfl)))))) rfl rfl)
      | (have hN := num_neg hqT0 h9
         rw [hq0, wrw_n hN] at hr
         subst hr
         exact WP.cg (lp21 27 0 _ false false J0 _ (by omega) ⟨fun a ha _ => hJ0.1 a ha, hJ0.2.1, fun q => absurd q (by decide), fun _ => ⟨rd_f hJ0, rfl⟩⟩ (by first | rfl | assumption)) (lC1 (lI1 rfl (lI1 rfl (lI1 rfl (lI1 rfl (lC1 rfl)))))) rfl rfl)
  · intro h9
    refine wp_iconst (v := nI 1) (pc' := 13) rfl rfl rfl ?_
    refine wp_goto rfl ?_
    refine wp_istore3 (pc' := 18) rfl (by first | rfl | assumption) rfl ?_
    refine wp_iload3 (pc' := 19) rfl rfl ?_
    refine wp_istore4 (pc' := 21) rfl (by first | rfl | assumption) rfl ?_
    have lp21 : ∀ r (c : Nat) (xc : Int32) (g f : Bool) (J : Mem) (v5 : Value), c + r = 27 → RoI T tv I rq k c xc g f J → isL v5 = false → WP (d + 3) F_228 21 [.ref 318, .int (nI k), .int xc, .int (if g = true then nI 1 else nI 0), .int (if f = true then nI 1 else nI 0), v5] [] (K, J, L, R, n, s) Q := by
      intro r; induction r with
      | zero =>
        intro c xc g f J v5 hi hv0 hv1
        have h23 : ¬ f = true := fun q => absurd (hv0.2.2.1 q).2.1 (by omega)
        refine wp_iload4 (pc' := 23) rfl rfl ?_
        refine wp_ifeqT rfl (if_neg h23) ?_
        refine wp_iload3 (pc' := 93) rfl rfl ?_
        refine wp_iret rfl rfl (by first | rfl | exact nar_if) ?_
        have hfin := hv0.2.2.2 (Bool.eq_false_iff.mpr h23)
        exact Qv (kk rq J hr hfin.1) (by rw [hfin.2]) rfl
      | succ r ih =>
        intro c xc g f J v5 hi hv0 hv1
        refine wp_iload4 (pc' := 23) rfl rfl ?_
        first | refine wp_ifeqB (pc' := 26) rfl rfl ?_ ?_ | refine wp_ifeq (pc' := 26) rfl rfl ?_ ?_
        · intro h23
          refine wp_iload3 (pc' := 93) rfl rfl ?_
          refine wp_iret rfl rfl (by first | rfl | exact nar_if) ?_
          have hfin := hv0.2.2.2 (Bool.eq_false_iff.mpr h23)
          exact Qv (kk rq J hr hfin.1) (by rw [hfin.2]) rfl
        · intro h23
          refine wp_aload0 (pc' := 27) rfl rfl ?_
          refine wp_iconst (v := nI 0) (pc' := 28) rfl rfl rfl ?_
          refine wp_bipush (v := nI 9) (pc' := 30) rfl rfl rfl ?_
          refine wp_callV3 (pc' := 33) rfl rfl rfl rfl rfl (by first | exact TK.k1 hT rfl | exact TK.kk hT rfl | exact TK.r hT rfl | assumption) rfl rfl ?_
          obtain ⟨hxc, hc25, p2, hp2, hJp, hcr⟩ := hv0.2.2.1 h23
          subst hxc
          have hRJ : RfI J T tv := ⟨by rw [hv0.2.1 11 (by decide) (by decide)]; exact hR.1, hR.2.1, by rw [hv0.1 324 (by decide) (by decide)]; exact hR.2.2⟩
          refine m_numberJ hT hRJ hp2 hJp (fun J2 e hE hJ2 => ?_)
          obtain ⟨q, hq⟩ : ∃ q, skp tv T p2 = q := ⟨_, rfl⟩
          have hqT := (skp_ge (tv := tv) hp2).2
          rw [hq] at hE hJ2 hqT hcr ⊢
          have hF1 : ∀ a, a ≠ 318 → a ≠ 319 → J2 a = I a := fun a ha hb => (hJ2.1 a ha).trans (hv0.1 a ha hb)
          have hF2 : ∀ j, j ≠ 10 → j ≠ 12 → J2 318 j = I 318 j := fun j a1 a2 => (hJ2.2.1 j a1 a2).trans (hv0.2.1 j a1 a2)
          refine Cont.v ?_
          refine wp_istore5 (pc' := 35) rfl (by first | rfl | assumption) rfl ?_
          refine wp_iload5 (pc' := 37) rfl rfl ?_
          refine wp_iflt (pc' := 40) rfl rfl ?_ ?_
          · intro h37
            refine wp_iconst (v := nI 0) (pc' := 51) rfl rfl rfl ?_
            refine wp_istore3 (pc' := 52) rfl (by first | rfl | assumption) rfl ?_
            refine wp_iload3 (pc' := 53) rfl rfl ?_
            refine wp_ifeqT rfl rfl ?_
            first | refine wp_iinc2 (w := nI 1) (pc' := 71) rfl rfl rfl (by with_reducible exact nI_add _ _) rfl ?_ | refine wp_iinc2 (w := nI 1) (pc' := 71) rfl rfl rfl rfl rfl ?_
            refine wp_iload3 (pc' := 72) rfl rfl ?_
            refine wp_ifeqT rfl rfl ?_
            refine wp_iconst (v := nI 0) (pc' := 87) rfl rfl rfl ?_
            refine wp_istore4 (pc' := 89) rfl (by first | rfl | assumption) rfl ?_
            refine wp_goto rfl ?_
            first
              | exact WP.cg (ih (c + 1) _ true true _ _ (by omega) ⟨hG1, hG2, fun _ => ⟨rfl, by omega, z, hzT, hJ3.2.2.1, by rw [hG9, ← hzz.2, skp_sk hzz.1, hzz.2]; rw [if_pos h79] at hcr; exact hcr⟩, fun q => absurd q (by decide)⟩ (by first | rfl | assumption)) (lC1 (lI1 rfl (lI1 rfl (lI1 rfl (lI1 rfl (lC1 rfl)))))) rfl rfl
              | exact WP.cg (ih (c + 1) _ true false _ _ (by omega) ⟨hG1, hG2, fun q => absurd q (by decide), fun _ => by rw [if_neg h79] at hcr; rw [← hcr]; exact ⟨⟨hG1, hG2, fun _ => ⟨hG9, z, hzT, hJ3.2.2.1, by rw [← hzz.2, skp_sk hzz.1]⟩, fun q => absurd (show true = false from q) (by decide)⟩, rfl⟩⟩ (by first | rfl | assumption)) (lC1 (lI1 rfl (lI1 rfl (lI1 rfl (lI1 rfl (lC1 rfl)))))) rfl rfl
              | exact WP.cg (ih (c + 1) _ false false _ _ (by omega) ⟨hF1, hF2, fun q => absurd q (by decide), fun _ => row_bad (N := J) hcr hc25 hqT (Or.inl h37) hF1 hF2 hJ2.2.2.2⟩ (by first | rfl | assumption)) (lC1 (lI1 rfl (lI1 rfl (lI1 rfl (lI1 rfl (lC1 rfl)))))) rfl rfl
              | exact WP.cg (ih (c + 1) _ false false _ _ (by omega) ⟨hF1, hF2, fun q => absurd q (by decide), fun _ => row_bad (N := J) hcr hc25 hqT (Or.inr (ge_nI h43 (by omega))) hF1 hF2 hJ2.2.2.2⟩ (by first | rfl | assumption)) (lC1 (lI1 rfl (lI1 rfl (lI1 rfl (lI1 rfl (lC1 rfl)))))) rfl rfl
          · intro h37
            skip
            refine wp_iload2 (pc' := 41) rfl rfl ?_
            refine wp_bipush (v := nI 25) (pc' := 43) rfl rfl rfl ?_
            refine wp_icmpge (pc' := 46) rfl rfl ?_ ?_
            · intro h43
              refine wp_iconst (v := nI 0) (pc' := 51) rfl rfl rfl ?_
              refine wp_istore3 (pc' := 52) rfl (by first | rfl | assumption) rfl ?_
              refine wp_iload3 (pc' := 53) rfl rfl ?_
              refine wp_ifeqT rfl rfl ?_
              first | refine wp_iinc2 (w := nI 1) (pc' := 71) rfl rfl rfl (by with_reducible exact nI_add _ _) rfl ?_ | refine wp_iinc2 (w := nI 1) (pc' := 71) rfl rfl rfl rfl rfl ?_
              refine wp_iload3 (pc' := 72) rfl rfl ?_
              refine wp_ifeqT rfl rfl ?_
              refine wp_iconst (v := nI 0) (pc' := 87) rfl rfl rfl ?_
              refine wp_istore4 (pc' := 89) rfl (by first | rfl | assumption) rfl ?_
              refine wp_goto rfl ?_
              first
                | exact WP.cg (ih (c + 1) _ true true _ _ (by omega) ⟨hG1, hG2, fun _ => ⟨rfl, by omega, z, hzT, hJ3.2.2.1, by rw [hG9, ← hzz.2, skp_sk hzz.1, hzz.2]; rw [if_pos h79] at hcr; exact hcr⟩, fun q => absurd q (by decide)⟩ (by first | rfl | assumption)) (lC1 (lI1 rfl (lI1 rfl (lI1 rfl (lI1 rfl (lC1 rfl)))))) rfl rfl
                | exact WP.cg (ih (c + 1) _ true false _ _ (by omega) ⟨hG1, hG2, fun q => absurd q (by decide), fun _ => by rw [if_neg h79] at hcr; rw [← hcr]; exact ⟨⟨hG1, hG2, fun _ => ⟨hG9, z, hzT, hJ3.2.2.1, by rw [← hzz.2, skp_sk hzz.1]⟩, fun q => absurd (show true = false from q) (by decide)⟩, rfl⟩⟩ (by first | rfl | assumption)) (lC1 (lI1 rfl (lI1 rfl (lI1 rfl (lI1 rfl (lC1 rfl)))))) rfl rfl
                | exact WP.cg (ih (c + 1) _ false false _ _ (by omega) ⟨hF1, hF2, fun q => absurd q (by decide), fun _ => row_bad (N := J) hcr hc25 hqT (Or.inl h37) hF1 hF2 hJ2.2.2.2⟩ (by first | rfl | assumption)) (lC1 (lI1 rfl (lI1 rfl (lI1 rfl (lI1 rfl (lC1 rfl)))))) rfl rfl
                | exact WP.cg (ih (c + 1) _ false false _ _ (by omega) ⟨hF1, hF2, fun q => absurd q (by decide), fun _ => row_bad (N := J) hcr hc25 hqT (Or.inr (ge_nI h43 (by omega))) hF1 hF2 hJ2.2.2.2⟩ (by first | rfl | assumption)) (lC1 (lI1 rfl (lI1 rfl (lI1 rfl (lI1 rfl (lC1 rfl)))))) rfl rfl
            · intro h43
              refine wp_iconst (v := nI 1) (pc' := 47) rfl rfl rfl ?_
              refine wp_goto rfl ?_
              refine wp_istore3 (pc' := 52) rfl (by first | rfl | assumption) rfl ?_
              refine wp_iload3 (pc' := 53) rfl rfl ?_
              refine wp_ifeqF (pc' := 56) rfl (by decide) rfl ?_
              have hc9a := nI_lt_inv (by omega) (by omega) h43
              refine wp_aload0 (pc' := 57) rfl rfl ?_
              refine wp_getRF (pc' := 60) rfl rfl (by first | exact TK.k1 hT rfl | exact TK.kk hT rfl | exact TK.r hT rfl | assumption) (by first | exact TK.k1 hT rfl | exact TK.kk hT rfl | exact TK.r hT rfl | assumption) rfl ?_
              refine wp_iload2 (pc' := 61) rfl rfl ?_
              refine wp_iload1 (pc' := 62) rfl rfl ?_
              refine wp_callS2 (pc' := 65) rfl rfl rfl rfl rfl rfl ?_
              refine m_at ?_
              refine Cont.v ?_
              refine wp_iload5 (pc' := 67) rfl rfl ?_
              refine wp_iast _ (pc' := 68) rfl (by first | exact TK.k1 hT rfl | exact TK.kk hT rfl | exact TK.r hT rfl | assumption) (by omega) (by with_reducible rfl) (by omega) (by first | decide | assumption | omega) rfl ?_
              first | refine wp_iinc2 (w := nI 1) (pc' := 71) rfl rfl rfl (by with_reducible exact nI_add _ _) rfl ?_ | refine wp_iinc2 (w := nI 1) (pc' := 71) rfl rfl rfl rfl rfl ?_
              refine wp_iload3 (pc' := 72) rfl rfl ?_
              refine wp_ifeqF (pc' := 75) rfl (by decide) rfl ?_
              refine wp_aload0 (pc' := 76) rfl rfl ?_
              refine wp_callV1 (pc' := 79) rfl rfl rfl rfl rfl (by first | exact TK.k1 hT rfl | exact TK.kk hT rfl | exact TK.r hT rfl | assumption) rfl rfl ?_
              obtain ⟨v, z, hN, hv, hv1, hv24, hqz, hzT⟩ := num_pos hqT h37
              have hzz := nu_ok hE hN
              have hc9 := nI_lt_inv (by omega) (by omega) h43
              rw [up2_as, hJ2.1 319 (by decide), hN]
              obtain ⟨J4, hJ4⟩ : ∃ J4, J4 = upr J2 319 (up1 (J 319) (9 + 6 * c + k) (nI v)) := ⟨_, rfl⟩
              change Ok _ _ _ (K, upr J2 319 (up1 (J 319) (9 + 6 * c + k) (nI v)), L, R, n, s) _
              rw [← hJ4]
              have hJ4a : ∀ a, a ≠ 319 → J4 a = J2 a := fun a ha => by rw [hJ4]; exact upr_ne ha
              have hRJ4 : RfI J4 T tv := ⟨by rw [hJ4a 318 (by decide), hF2 11 (by decide) (by decide)]; exact hR.1, hR.2.1, by rw [hJ4a 324 (by decide), hF1 324 (by decide) (by decide)]; exact hR.2.2⟩
              refine m_isNumNextJ hT hRJ4 hzz.1 (by rw [hJ4a 318 (by decide)]; exact hJ2.2.2.1) (fun J3 hJ3 => ?_)
              rw [hzz.2] at hJ3 ⊢
              have hG1 : ∀ a, a ≠ 318 → a ≠ 319 → J3 a = I a := fun a ha hb => (hJ3.1 a ha).trans ((hJ4a a hb).trans (hF1 a ha hb))
              have hG2 : ∀ j, j ≠ 10 → j ≠ 12 → J3 318 j = I 318 j := fun j a1 a2 => (hJ3.2.1 j a1 a2).trans (by rw [hJ4a 318 (by decide)]; exact hF2 j a1 a2)
              have hG9 : J3 319 = up1 (J 319) (9 + 6 * c + k) (nI v) := (hJ3.1 319 (by decide)).trans (by rw [hJ4, upr_same])
              rw [show 25 - c = (25 - (c + 1)) + 1 by omega, wrow_s hN] at hcr
              refine Cont.v ?_
              first | refine wp_ifeqB (pc' := 82) rfl rfl ?_ ?_ | refine wp_ifeq (pc' := 82) rfl rfl ?_ ?_
              · intro h79
                refine wp_iconst (v := nI 0) (pc' := 87) rfl rfl rfl ?_
                refine wp_istore4 (pc' := 89) rfl (by first | rfl | assumption) rfl ?_
                refine wp_goto rfl ?_
                first
                  | exact WP.cg (ih (c + 1) _ true true _ _ (by omega) ⟨hG1, hG2, fun _ => ⟨rfl, by omega, z, hzT, hJ3.2.2.1, by rw [hG9, ← hzz.2, skp_sk hzz.1, hzz.2]; rw [if_pos h79] at hcr; exact hcr⟩, fun q => absurd q (by decide)⟩ (by first | rfl | assumption)) (lC1 (lI1 rfl (lI1 rfl (lI1 rfl (lI1 rfl (lC1 rfl)))))) rfl rfl
                  | exact WP.cg (ih (c + 1) _ true false _ _ (by omega) ⟨hG1, hG2, fun q => absurd q (by decide), fun _ => by rw [if_neg h79] at hcr; rw [← hcr]; exact ⟨⟨hG1, hG2, fun _ => ⟨hG9, z, hzT, hJ3.2.2.1, by rw [← hzz.2, skp_sk hzz.1]⟩, fun q => absurd (show true = false from q) (by decide)⟩, rfl⟩⟩ (by first | rfl | assumption)) (lC1 (lI1 rfl (lI1 rfl (lI1 rfl (lI1 rfl (lC1 rfl)))))) rfl rfl
                  | exact WP.cg (ih (c + 1) _ false false _ _ (by omega) ⟨hF1, hF2, fun q => absurd q (by decide), fun _ => row_bad (N := J) hcr hc25 hqT (Or.inl h37) hF1 hF2 hJ2.2.2.2⟩ (by first | rfl | assumption)) (lC1 (lI1 rfl (lI1 rfl (lI1 rfl (lI1 rfl (lC1 rfl)))))) rfl rfl
                  | exact WP.cg (ih (c + 1) _ false false _ _ (by omega) ⟨hF1, hF2, fun q => absurd q (by decide), fun _ => row_bad (N := J) hcr hc25 hqT (Or.inr (ge_nI h43 (by omega))) hF1 hF2 hJ2.2.2.2⟩ (by first | rfl | assumption)) (lC1 (lI1 rfl (lI1 rfl (lI1 rfl (lI1 rfl (lC1 rfl)))))) rfl rfl
              · intro h79
                refine wp_iconst (v := nI 1) (pc' := 83) rfl rfl rfl ?_
                refine wp_goto rfl ?_
                refine wp_istore4 (pc' := 89) rfl (by first | rfl | assumption) rfl ?_
                refine wp_goto rfl ?_
                first
                  | exact WP.cg (ih (c + 1) _ true true _ _ (by omega) ⟨hG1, hG2, fun _ => ⟨rfl, by omega, z, hzT, hJ3.2.2.1, by rw [hG9, ← hzz.2, skp_sk hzz.1, hzz.2]; rw [if_pos h79] at hcr; exact hcr⟩, fun q => absurd q (by decide)⟩ (by first | rfl | assumption)) (lC1 (lI1 rfl (lI1 rfl (lI1 rfl (lI1 rfl (lC1 rfl)))))) rfl rfl
                  | exact WP.cg (ih (c + 1) _ true false _ _ (by omega) ⟨hG1, hG2, fun q => absurd q (by decide), fun _ => by rw [if_neg h79] at hcr; rw [← hcr]; exact ⟨⟨hG1, hG2, fun _ => ⟨hG9, z, hzT, hJ3.2.2.1, by rw [← hzz.2, skp_sk hzz.1]⟩, fun q => absurd (show true = false from q) (by decide)⟩, rfl⟩⟩ (by first | rfl | assumption)) (lC1 (lI1 rfl (lI1 rfl (lI1 rfl (lI1 rfl (lC1 rfl)))))) rfl rfl
                  | exact WP.cg (ih (c + 1) _ false false _ _ (by omega) ⟨hF1, hF2, fun q => absurd q (by decide), fun _ => row_bad (N := J) hcr hc25 hqT (Or.inl h37) hF1 hF2 hJ2.2.2.2⟩ (by first | rfl | assumption)) (lC1 (lI1 rfl (lI1 rfl (lI1 rfl (lI1 rfl (lC1 rfl)))))) rfl rfl
                  | exact WP.cg (ih (c + 1) _ false false _ _ (by omega) ⟨hF1, hF2, fun q => absurd q (by decide), fun _ => row_bad (N := J) hcr hc25 hqT (Or.inr (ge_nI h43 (by omega))) hF1 hF2 hJ2.2.2.2⟩ (by first | rfl | assumption)) (lC1 (lI1 rfl (lI1 rfl (lI1 rfl (lI1 rfl (lC1 rfl)))))) rfl rfl
    first
      | (obtain ⟨v, z, hN, hv, hv1, hv24, hqz, hzT⟩ := num_pos hqT0 h9
         have hzz := nu_ok hE0 hN
         have hvl : v ≤ 24 := ge_nI hv24 (by omega)
         rw [hq0, wrw_s hN] at hr
         rw [hN]
         exact WP.cg (lp21 (27 - v) v _ true true J0 _ (by omega) ⟨fun a ha _ => hJ0.1 a ha, hJ0.2.1, fun _ => ⟨rfl, by omega, e0, hzz.1, hJ0.2.2.1, by rw [hJ0.1 319 (by decide), hzz.2]; exact hr⟩, fun q => absurd q (by decide)⟩ (by first | rfl | assumption)) (lC1 (lI1 rfl (lI1 rfl (lI1 rfl (lI1 rfl (lC1 rfl)))))) rfl rfl)
      | (have hN := num_neg hqT0 h9
         rw [hq0, wrw_n hN] at hr
         subst hr
         exact WP.cg (lp21 27 0 _ false false J0 _ (by omega) ⟨fun a ha _ => hJ0.1 a ha, hJ0.2.1, fun q => absurd q (by decide), fun _ => ⟨rd_f hJ0, rfl⟩⟩ (by first | rfl | assumption)) (lC1 (lI1 rfl (lI1 rfl (lI1 rfl (lI1 rfl (lC1 rfl)))))) rfl rfl)
