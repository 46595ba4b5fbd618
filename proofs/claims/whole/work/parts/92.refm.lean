/-! THE REFERENCE: stores made even -/
theorem jm3 {a b d : Nat} (ha : a < 2 ^ 29) (hb : b < 2 ^ 29) (hd : d < 2 ^ 29) : jmax (nI 0) (nI a - nI b - nI d) = nI (a - b - d) := by
  have e : nI a - nI b - nI d = nI a - nI (b + d) := by
    rw [← nI_add, Int32.sub_sub]
  rw [e]
  unfold jmax
  by_cases h : b + d ≤ a
  · rw [nI_sub h]
    by_cases h0 : a - (b + d) = 0
    · rw [h0, if_neg (by decide), show a - b - d = 0 by omega]
    · rw [if_pos (nI_lt (by omega) (by omega)), Nat.sub_sub]
  · rw [if_neg (fun q => absurd (Int32.lt_trans q (pk_sneg (a := a) (b := b + d) (by omega) (by omega))) (by decide)), show a - b - d = 0 by omega]
def uE (st : Nat → Nat) (e : Nat) (r : Nat → Int32) : Nat → Nat
  | 0 => 0
  | i + 1 => uE st e r i + (if r i = nI 0 then st i - e else 0)
def cE (st : Nat → Nat) (e : Nat) (r : Nat → Int32) : Nat → Nat
  | 0 => 0
  | i + 1 => cE st e r i + (if r i = nI 0 ∧ e < st i then 1 else 0)
def fE (r : Nat → Int32) : Nat → Nat
  | 0 => 0
  | i + 1 => fE r i + (if r i = nI 0 then 1 else 0)
theorem uE_up {st : Nat → Nat} {e b : Nat} {r : Nat → Int32} (hb : r b = nI 0) : ∀ i, uE st e (up1 r b (nI 1)) i + (if b < i then st b - e else 0) = uE st e r i
  | 0 => rfl
  | i + 1 => by
    have ih := uE_up (st := st) (e := e) hb i
    show uE st e (up1 r b (nI 1)) i + (if up1 r b (nI 1) i = nI 0 then st i - e else 0) + (if b < i + 1 then st b - e else 0) = uE st e r i + (if r i = nI 0 then st i - e else 0)
    by_cases q : b = i
    · subst q
      rw [up1_hit, if_neg (by decide : ¬ nI 1 = nI 0), if_pos (by omega : b < b + 1), if_pos hb]
      rw [if_neg (by omega : ¬ b < b)] at ih
      omega
    · rw [up1_ne (by omega : i ≠ b)]
      by_cases q2 : b < i
      · rw [if_pos q2] at ih; rw [if_pos (show b < i + 1 by omega)]; omega
      · rw [if_neg q2] at ih; rw [if_neg (show ¬ b < i + 1 by omega)]; omega
theorem cE_up {st : Nat → Nat} {e b : Nat} {r : Nat → Int32} (hb : r b = nI 0) : ∀ i, cE st e (up1 r b (nI 1)) i + (if b < i ∧ e < st b then 1 else 0) = cE st e r i
  | 0 => by rw [if_neg (fun q => absurd q.1 (Nat.not_lt_zero b))]; rfl
  | i + 1 => by
    have ih := cE_up (st := st) (e := e) hb i
    show cE st e (up1 r b (nI 1)) i + (if up1 r b (nI 1) i = nI 0 ∧ e < st i then 1 else 0) + (if b < i + 1 ∧ e < st b then 1 else 0) = cE st e r i + (if r i = nI 0 ∧ e < st i then 1 else 0)
    by_cases q : b = i
    · subst q
      rw [up1_hit, if_neg (fun q => absurd q.1 (by decide : ¬ nI 1 = nI 0))]
      rw [if_neg (fun q => absurd q.1 (by omega : ¬ b < b))] at ih
      by_cases q3 : e < st b
      · rw [if_pos ⟨by omega, q3⟩, if_pos ⟨hb, q3⟩]; omega
      · rw [if_neg (fun q => q3 q.2), if_neg (fun q => q3 q.2)]; omega
    · rw [up1_ne (by omega : i ≠ b)]
      by_cases q2 : b < i ∧ e < st b
      · rw [if_pos q2] at ih; rw [if_pos (show b < i + 1 ∧ e < st b from ⟨by omega, q2.2⟩)]; omega
      · rw [if_neg q2] at ih; rw [if_neg (show ¬ (b < i + 1 ∧ e < st b) from fun z => q2 ⟨by omega, z.2⟩)]; omega
theorem fE_up {b : Nat} {r : Nat → Int32} (hb : r b = nI 0) : ∀ i, fE (up1 r b (nI 1)) i + (if b < i then 1 else 0) = fE r i
  | 0 => rfl
  | i + 1 => by
    have ih := fE_up hb i
    show fE (up1 r b (nI 1)) i + (if up1 r b (nI 1) i = nI 0 then 1 else 0) + (if b < i + 1 then 1 else 0) = fE r i + (if r i = nI 0 then 1 else 0)
    by_cases q : b = i
    · subst q
      rw [up1_hit, if_neg (by decide : ¬ nI 1 = nI 0), if_pos (by omega : b < b + 1), if_pos hb]
      rw [if_neg (by omega : ¬ b < b)] at ih
      omega
    · rw [up1_ne (by omega : i ≠ b)]
      by_cases q2 : b < i
      · rw [if_pos q2] at ih; rw [if_pos (show b < i + 1 by omega)]; omega
      · rw [if_neg q2] at ih; rw [if_neg (show ¬ b < i + 1 by omega)]; omega
theorem cE_le {st : Nat → Nat} {e : Nat} {r : Nat → Int32} : ∀ i, cE st e r i ≤ uE st e r i
  | 0 => Nat.le_refl _
  | i + 1 => by
    have ih := cE_le (st := st) (e := e) (r := r) i
    show cE st e r i + (if r i = nI 0 ∧ e < st i then 1 else 0) ≤ uE st e r i + (if r i = nI 0 then st i - e else 0)
    by_cases q : r i = nI 0
    · rw [if_pos q]
      by_cases q2 : e < st i
      · rw [if_pos ⟨q, q2⟩]; omega
      · rw [if_neg (fun z => q2 z.2)]; omega
    · rw [if_neg q, if_neg (fun z => q z.1)]; omega
theorem uE_z {st : Nat → Nat} {e : Nat} {r : Nat → Int32} : ∀ i, (∀ h, h < i → r h = nI 0 → st h ≤ e) → uE st e r i = 0
  | 0 => fun _ => rfl
  | i + 1 => fun h => by
    have ih := uE_z (st := st) (e := e) (r := r) i (fun j hj => h j (by omega))
    show uE st e r i + (if r i = nI 0 then st i - e else 0) = 0
    by_cases q : r i = nI 0
    · have := h i (by omega) q; rw [if_pos q]; omega
    · rw [if_neg q]; omega
theorem uE_f {st : Nat → Nat} {e : Nat} {r : Nat → Int32} : ∀ i, fE r i = 0 → uE st e r i = 0
  | 0 => fun _ => rfl
  | i + 1 => fun h => by
    have h' : fE r i + (if r i = nI 0 then 1 else 0) = 0 := h
    by_cases q : r i = nI 0
    · rw [if_pos q] at h'; omega
    · rw [if_neg q] at h'
      show uE st e r i + (if r i = nI 0 then st i - e else 0) = 0
      rw [if_neg q, uE_f i (by omega)]
theorem uE_ag {st : Nat → Nat} {e : Nat} {r q : Nat → Int32} : ∀ i, (∀ h, h < i → r h = q h) → uE st e r i = uE st e q i ∧ cE st e r i = cE st e q i ∧ fE r i = fE q i
  | 0 => fun _ => ⟨rfl, rfl, rfl⟩
  | i + 1 => fun h => by
    obtain ⟨a, b, c⟩ := uE_ag (st := st) (e := e) i (fun j hj => h j (by omega))
    have hi := h i (by omega)
    refine ⟨?_, ?_, ?_⟩
    · show uE st e r i + (if r i = nI 0 then st i - e else 0) = uE st e q i + (if q i = nI 0 then st i - e else 0)
      rw [a, hi]
    · show cE st e r i + (if r i = nI 0 ∧ e < st i then 1 else 0) = cE st e q i + (if q i = nI 0 ∧ e < st i then 1 else 0)
      rw [b, hi]
    · show fE r i + (if r i = nI 0 then 1 else 0) = fE q i + (if q i = nI 0 then 1 else 0)
      rw [c, hi]
theorem fE_0 : ∀ i, fE (fun _ => nI 0) i = i
  | 0 => rfl
  | i + 1 => by show fE (fun _ => nI 0) i + (if nI 0 = nI 0 then 1 else 0) = i + 1; rw [fE_0 i, if_pos rfl]
def StW (w : Nat → Int32) (st : Nat → Nat) : Prop := ∀ h, h < 6 → w (159 + 4 * h + 2) = nI (st h) ∧ st h ≤ 999
theorem rcF_max {w r : Nat → Int32} {st : Nat → Nat} (hst : StW w st) : ∀ i, i ≤ 6 → (rcF w r i = -1 ∧ fE r i = 0) ∨ ∃ b, b < i ∧ rcF w r i = nI b ∧ r b = nI 0 ∧ ∀ h, h < i → r h = nI 0 → st h ≤ st b
  | 0 => fun _ => Or.inl ⟨rfl, rfl⟩
  | i + 1 => fun hi => by
    have hsi := hst i (by omega)
    rw [rcF_s]
    show (_ ∧ fE r i + (if r i = nI 0 then 1 else 0) = 0) ∨ _
    rcases rcF_max (r := r) hst i (by omega) with ⟨h1, h2⟩ | ⟨b, hb, h1, h2, h3⟩
    · by_cases q : r i = nI 0
      · right
        rw [if_pos q, if_pos h1]
        refine ⟨i, by omega, rfl, q, fun h hh hr => ?_⟩
        by_cases e : h = i
        · rw [e]; exact Nat.le_refl _
        · exfalso
          have hf : ∀ k, k ≤ i → fE r k = 0 → ∀ h, h < k → ¬ r h = nI 0 := by
            intro k
            induction k with
            | zero => intro _ _ h hh; exact absurd hh (Nat.not_lt_zero h)
            | succ k ihk =>
              intro hk hz h hh hr
              have hz' : fE r k + (if r k = nI 0 then 1 else 0) = 0 := hz
              by_cases e2 : h = k
              · rw [e2] at hr; rw [if_pos hr] at hz'; omega
              · exact ihk (by omega) (by omega) h (by omega) hr
          exact hf i (Nat.le_refl _) h2 h (by omega) hr
      · left
        rw [if_neg q, if_neg q]
        exact ⟨h1, by omega⟩
    · right
      have hsb := hst b (by omega)
      have htb : tn (rcF w r i) = b := by rw [h1]; exact tn_nI (by omega)
      by_cases q : r i = nI 0
      · rw [if_pos q, if_neg (show ¬ rcF w r i = -1 by rw [h1]; exact nI_nm1 (by omega)), htb, hsb.1, hsi.1]
        by_cases z : nI (st b) < nI (st i)
        · rw [if_pos z]
          have hz := nI_lt_inv (by omega) (by omega) z
          refine ⟨i, by omega, rfl, q, fun h hh hr => ?_⟩
          by_cases e : h = i
          · rw [e]; exact Nat.le_refl _
          · have := h3 h (by omega) hr; omega
        · rw [if_neg z]
          have hz := ge_nI z (by omega)
          refine ⟨b, by omega, h1, h2, fun h hh hr => ?_⟩
          by_cases e : h = i
          · rw [e]; exact hz
          · exact h3 h (by omega) hr
      · rw [if_neg q]
        refine ⟨b, by omega, h1, h2, fun h hh hr => ?_⟩
        by_cases e : h = i
        · rw [e] at hr; exact absurd hr q
        · exact h3 h (by omega) hr
theorem sum_nat {D : Nat → Int32} {a : Nat → Nat} : ∀ i, (∀ j, j < i → D j = nI (a j)) → sumN D i = nI (sNt a i)
  | 0 => fun _ => rfl
  | i + 1 => fun h => by
    show sumN D i + D i = nI (sNt a i + a i)
    rw [sum_nat i (fun j hj => h j (by omega)), h i (by omega), nI_add]
theorem sNt_le {a : Nat → Nat} {m : Nat} : ∀ i, (∀ j, j < i → a j ≤ m) → sNt a i ≤ i * m
  | 0 => fun _ => Nat.zero_le _
  | i + 1 => fun h => by
    have := sNt_le i (fun j hj => h j (by omega))
    have := h i (by omega)
    show sNt a i + a i ≤ (i + 1) * m
    rw [Nat.succ_mul]; omega
theorem sum_st {w : Nat → Int32} {st : Nat → Nat} {H : Nat} (hst : StW w st) (hH : H ≤ 6) : sumN (Sv w 8) H = nI (sNt st H) := sum_nat H (fun j hj => by rw [Sv_8 (by omega)]; exact (hst j (by omega)).1)
/-- how much is moved: what is above the even part, less what may be kept -/
def evnT (st : Nat → Nat) (H : Nat) (r : Nat → Int32) (i : Nat) : Nat := uE st (sNt st H / H) r H - min (sNt st H % H - i) (cE st (sNt st H / H) r H)
def evnV (st : Nat → Nat) (H : Nat) : Nat := evnT st H (fun _ => nI 0) 0
theorem evn_step {st : Nat → Nat} {H b i y t : Nat} {r : Nat → Int32} (hb : b < H) (hr : r b = nI 0) (hm : ∀ h, h < H → r h = nI 0 → st h ≤ st b) (h : y + evnT st H r i = t) :
    y + (st b - sNt st H / H - (if i < sNt st H % H then 1 else 0)) + evnT st H (up1 r b (nI 1)) (i + 1) = t := by
  unfold evnT at h ⊢
  have hu := uE_up (st := st) (e := sNt st H / H) hr H
  have hc := cE_up (st := st) (e := sNt st H / H) hr H
  rw [if_pos hb] at hu
  have hcl := cE_le (st := st) (e := sNt st H / H) (r := up1 r b (nI 1)) H
  have hcl2 := cE_le (st := st) (e := sNt st H / H) (r := r) H
  generalize sNt st H % H = q at h ⊢
  by_cases e : sNt st H / H < st b
  · rw [if_pos ⟨hb, e⟩] at hc
    generalize sNt st H / H = p at *
    generalize uE st p (up1 r b (nI 1)) H = u1 at *
    generalize cE st p (up1 r b (nI 1)) H = c1 at *
    generalize uE st p r H = u0 at *
    generalize cE st p r H = c0 at *
    by_cases z : i < q
    · rw [if_pos z]; omega
    · rw [if_neg z]; omega
  · have hz := uE_z (st := st) (e := sNt st H / H) (r := r) H (fun h hh hr2 => Nat.le_trans (hm h hh hr2) (Nat.le_of_not_lt e))
    generalize sNt st H / H = p at *
    generalize uE st p (up1 r b (nI 1)) H = u1 at *
    generalize cE st p (up1 r b (nI 1)) H = c1 at *
    generalize uE st p r H = u0 at *
    generalize cE st p r H = c0 at *
    by_cases z : i < q
    · rw [if_pos z]; omega
    · rw [if_neg z]; omega
theorem evn_end {st : Nat → Nat} {H y t : Nat} {r : Nat → Int32} (hf : fE r H = 0) (h : y + evnT st H r H = t) : y = t := by
  unfold evnT at h
  rw [uE_f H hf] at h
  omega

theorem m_even {d : Nat} {K : Nat → Nat × Nat} {I : Nat → Nat → Int32} {L : Nat → Nat → Int64} {R : Nat → Nat → Option Nat} {n s : Nat} {Q : Lo → Lm → Prop} {st : Nat → Nat} {H : Nat} (hT : TK K R n) (hw : I 319 0 = nI H) (hH6 : H ≤ 6) (hst : StW (I 319) st) (hH0 : 0 < H) (kk : ∀ v, Q (.inl (some (.int (nI (evnV st H))))) (K, upr (up2 I 318 0 (nI 0)) 334 v, L, R, n, s)) : Ok (d + 4) 333 [.ref 318] (K, I, L, R, n, s) Q := by
  obtain ⟨-, -, hn⟩ := id hT
  have hS := sNt_le (a := st) (m := 999) H (fun j hj => (hst j (by omega)).2)
  have hS2 : sNt st H ≤ 5994 := Nat.le_trans hS (Nat.mul_le_mul_right 999 hH6)
  have hdv : sNt st H / H ≤ 5994 := Nat.le_trans (Nat.div_le_self _ _) hS2
  have hmd : sNt st H % H ≤ 5994 := Nat.le_trans (Nat.mod_le _ _) hS2
  refine Ok.enter (F := F_333) (ls := [.ref 318, lDead, lDead, lDead, lDead, lDead]) rfl rfl ?_
  refine wp_aload0 (pc' := 1) rfl rfl ?_
  refine wp_iconst (v := nI 0) (pc' := 2) rfl rfl rfl ?_
  refine wp_putI (pc' := 5) rfl rfl (by first | exact TK.k1 hT rfl | exact TK.kk hT rfl | exact TK.r hT rfl | assumption) (by omega) rfl ?_
  obtain ⟨M, hM⟩ : ∃ M, M = up2 I 318 0 (nI 0) := ⟨_, rfl⟩
  have hM9 : M 319 = I 319 := by rw [hM]; exact up2_row (by decide)
  have hM7 : M 318 7 = I 318 7 := by rw [hM, up2_same, if_neg (by decide)]
  rw [← hM]
  refine wp_aload0 (pc' := 6) rfl rfl ?_
  refine wp_callV1 (pc' := 9) rfl rfl rfl rfl rfl (by first | exact TK.k1 hT rfl | exact TK.kk hT rfl | exact TK.r hT rfl | assumption) rfl rfl ?_
  refine m_hearths (H := H) hT (by rw [hM9]; exact hw) ?_
  refine Cont.v ?_
  refine wp_ifneT rfl (fun q => absurd ((nI_eq (by omega) (by decide)).mp q) (by omega)) ?_
  refine wp_iconst (v := nI 0) (pc' := 15) rfl rfl rfl ?_
  refine wp_istore1 (pc' := 16) rfl (by first | rfl | assumption) rfl ?_
  have lp16 : ∀ r (i : Nat) (v2 : Value) (v3 : Value) (v4 : Value) (v5 : Value), i + r = 6 → isL v2 = false → isL v3 = false → isL v4 = false → isL v5 = false → WP (d + 3) F_333 16 [.ref 318, .int (nI i), v2, v3, v4, v5] [] (K, upr M 334 (cpy i (fun _ => nI 0) (M 334)), L, R, n, s) Q := by
    intro r; induction r with
    | zero =>
      intro i v2 v3 v4 v5 hi hv0 hv1 hv2 hv3
      have hi2 : i = 6 := by omega
      subst hi2
      refine wp_iload1 (pc' := 17) rfl rfl ?_
      refine wp_bipush (v := nI 6) (pc' := 19) rfl rfl rfl ?_
      refine wp_icmpgeT rfl (nI_nlt (by omega) (by omega)) ?_
      refine wp_aload0 (pc' := 36) rfl rfl ?_
      refine wp_callV1 (pc' := 39) rfl rfl rfl rfl rfl (by first | exact TK.k1 hT rfl | exact TK.kk hT rfl | exact TK.r hT rfl | assumption) rfl rfl ?_
      refine m_storesOfAll (H := H) hT (by rw [upr_ne (show (319 : Nat) ≠ 334 by decide), hM9]; exact hw) hH6 ?_
      rw [upr_ne (show (319 : Nat) ≠ 334 by decide), hM9, sum_st hst hH6]
      refine Cont.v ?_
      refine wp_aload0 (pc' := 40) rfl rfl ?_
      refine wp_callV1 (pc' := 43) rfl rfl rfl rfl rfl (by first | exact TK.k1 hT rfl | exact TK.kk hT rfl | exact TK.r hT rfl | assumption) rfl rfl ?_
      refine m_hearths (H := H) hT (by rw [upr_ne (show (319 : Nat) ≠ 334 by decide), hM9]; exact hw) ?_
      refine Cont.v ?_
      first | refine wp_idivN (pc' := 44) rfl (by with_reducible rfl) (by with_reducible rfl) (by omega) (by omega) (by omega) rfl ?_ | refine wp_idiv (pc' := 44) rfl (by decide) rfl ?_
      refine wp_istore1 (pc' := 45) rfl (by first | rfl | assumption) rfl ?_
      refine wp_aload0 (pc' := 46) rfl rfl ?_
      refine wp_callV1 (pc' := 49) rfl rfl rfl rfl rfl (by first | exact TK.k1 hT rfl | exact TK.kk hT rfl | exact TK.r hT rfl | assumption) rfl rfl ?_
      refine m_storesOfAll (H := H) hT (by rw [upr_ne (show (319 : Nat) ≠ 334 by decide), hM9]; exact hw) hH6 ?_
      rw [upr_ne (show (319 : Nat) ≠ 334 by decide), hM9, sum_st hst hH6]
      refine Cont.v ?_
      refine wp_aload0 (pc' := 50) rfl rfl ?_
      refine wp_callV1 (pc' := 53) rfl rfl rfl rfl rfl (by first | exact TK.k1 hT rfl | exact TK.kk hT rfl | exact TK.r hT rfl | assumption) rfl rfl ?_
      refine m_hearths (H := H) hT (by rw [upr_ne (show (319 : Nat) ≠ 334 by decide), hM9]; exact hw) ?_
      refine Cont.v ?_
      first | refine wp_iremN (pc' := 54) rfl (by with_reducible rfl) (by with_reducible rfl) (by omega) (by omega) (by omega) rfl ?_ | refine wp_irem (pc' := 54) rfl (by decide) rfl ?_
      refine wp_istore2 (pc' := 55) rfl (by first | rfl | assumption) rfl ?_
      refine wp_iconst (v := nI 0) (pc' := 56) rfl rfl rfl ?_
      refine wp_istore3 (pc' := 57) rfl (by first | rfl | assumption) rfl ?_
      refine wp_iconst (v := nI 0) (pc' := 58) rfl rfl rfl ?_
      refine wp_istore4 (pc' := 60) rfl (by first | rfl | assumption) rfl ?_
      have lp60 : ∀ rb (i : Nat) (r2 : Nat → Int32) (y : Nat) (v5 : Value), i + rb = H → fE r2 H + i = H → y + evnT st H r2 i = evnV st H → isL v5 = false → WP (d + 3) F_333 60 [.ref 318, .int (nI (sNt st H / H)), .int (nI (sNt st H % H)), .int (nI y), .int (nI i), v5] [] (K, upr M 334 r2, L, R, n, s) Q := by
        intro rb; induction rb with
        | zero =>
          intro i r2 y v5 hib hvb0 hvb1 hvb2
          have hi2b : i = H := by omega
          have hi3 := hi2b.symm
          subst hi3
          refine wp_iload4 (pc' := 62) rfl rfl ?_
          refine wp_aload0 (pc' := 63) rfl rfl ?_
          refine wp_callV1 (pc' := 66) rfl rfl rfl rfl rfl (by first | exact TK.k1 hT rfl | exact TK.kk hT rfl | exact TK.r hT rfl | assumption) rfl rfl ?_
          refine m_hearths (H := H) hT (by rw [upr_ne (show (319 : Nat) ≠ 334 by decide), hM9]; exact hw) ?_
          refine Cont.v ?_
          refine wp_icmpgeT rfl (nI_nlt (by omega) (by omega)) ?_
          refine wp_iload3 (pc' := 118) rfl rfl ?_
          refine wp_iret rfl rfl rfl ?_
          rw [hM]
          exact Qv (kk r2) (by rw [evn_end (by omega) hvb1]) rfl
        | succ rb ihb =>
          intro i r2 y v5 hib hvb0 hvb1 hvb2
          have hltb : i < H := by omega
          refine wp_iload4 (pc' := 62) rfl rfl ?_
          refine wp_aload0 (pc' := 63) rfl rfl ?_
          refine wp_callV1 (pc' := 66) rfl rfl rfl rfl rfl (by first | exact TK.k1 hT rfl | exact TK.kk hT rfl | exact TK.r hT rfl | assumption) rfl rfl ?_
          refine m_hearths (H := H) hT (by rw [upr_ne (show (319 : Nat) ≠ 334 by decide), hM9]; exact hw) ?_
          refine Cont.v ?_
          refine wp_icmpgeF (pc' := 69) rfl (nI_lt (by omega) (by omega)) rfl ?_
          refine wp_aload0 (pc' := 70) rfl rfl ?_
          refine wp_callV1 (pc' := 73) rfl rfl rfl rfl rfl (by first | exact TK.k1 hT rfl | exact TK.kk hT rfl | exact TK.r hT rfl | assumption) rfl rfl ?_
          refine m_richestOf (H := H) hT (by rw [upr_ne (show (319 : Nat) ≠ 334 by decide), hM9]; exact hw) hH6 ?_
          rw [upr_same, upr_ne (show (319 : Nat) ≠ 334 by decide), hM9]
          obtain ⟨b, hb, hbe, hbr, hbm⟩ := (rcF_max (r := r2) hst H hH6).resolve_left (fun q => absurd q.2 (by omega))
          have hsb := (hst b (by omega)).2
          rw [hbe]
          refine Cont.v ?_
          refine wp_istore5 (pc' := 75) rfl (by first | rfl | assumption) rfl ?_
          refine wp_aload0 (pc' := 76) rfl rfl ?_
          refine wp_getRF (pc' := 79) rfl rfl (by first | exact TK.k1 hT rfl | exact TK.kk hT rfl | exact TK.r hT rfl | assumption) (by first | exact TK.k1 hT rfl | exact TK.kk hT rfl | exact TK.r hT rfl | assumption) rfl ?_
          refine wp_iload5 (pc' := 81) rfl rfl ?_
          refine wp_iconst (v := nI 1) (pc' := 82) rfl rfl rfl ?_
          first | refine wp_bast _ (pc' := 83) rfl (by first | exact TK.k1 hT rfl | exact TK.kk hT rfl | exact TK.r hT rfl | assumption) (by omega) (by with_reducible rfl) (by omega) (by first | decide | assumption | omega) rfl ?_ | refine wp_zast _ (pc' := 83) rfl (by first | exact TK.k1 hT rfl | exact TK.kk hT rfl | exact TK.r hT rfl | assumption) (by omega) (by first | exact Or.inl rfl | exact Or.inr rfl) (by with_reducible rfl) (by omega) (by first | decide | assumption | omega) rfl ?_
          refine wp_iload3 (pc' := 84) rfl rfl ?_
          refine wp_iconst (v := nI 0) (pc' := 85) rfl rfl rfl ?_
          refine wp_aload0 (pc' := 86) rfl rfl ?_
          refine wp_iload5 (pc' := 88) rfl rfl ?_
          refine wp_iconst (v := nI 2) (pc' := 89) rfl rfl rfl ?_
          refine wp_callV3 (pc' := 92) rfl rfl rfl rfl rfl (by first | exact TK.k1 hT rfl | exact TK.kk hT rfl | exact TK.r hT rfl | assumption) rfl rfl ?_
          refine m_ofH hT (by omega) (by decide) ?_
          rw [up2_row (show (319 : Nat) ≠ 334 by decide), upr_ne (show (319 : Nat) ≠ 334 by decide), hM9, (hst b (by omega)).1]
          refine Cont.v ?_
          refine wp_iload1 (pc' := 93) rfl rfl ?_
          first | refine wp_isubN (pc' := 94) rfl (by with_reducible rfl) (by with_reducible rfl) (by omega) rfl ?_ | refine wp_isub (pc' := 94) rfl rfl ?_
          refine wp_iload4 (pc' := 96) rfl rfl ?_
          refine wp_iload2 (pc' := 97) rfl rfl ?_
          refine wp_icmpge (pc' := 100) rfl rfl ?_ ?_
          · intro h97
            refine wp_iconst (v := nI 0) (pc' := 105) rfl rfl rfl ?_
            first | refine wp_isubN (pc' := 106) rfl (by with_reducible rfl) (by with_reducible rfl) (by omega) rfl ?_ | refine wp_isub (pc' := 106) rfl rfl ?_
            refine wp_max (pc' := 109) rfl rfl rfl rfl ?_
            first | rw [jm3 (a := st b) (b := (sNt st H / H)) (d := 1) (by omega) (by omega) (by omega)] | rw [jm3 (a := st b) (b := (sNt st H / H)) (d := 0) (by omega) (by omega) (by omega)]
            first | refine wp_iaddN (pc' := 110) rfl (by with_reducible rfl) (by with_reducible rfl) rfl ?_ | refine wp_iadd (pc' := 110) rfl rfl ?_
            refine wp_istore3 (pc' := 111) rfl (by first | rfl | assumption) rfl ?_
            first | refine wp_iinc4 (w := nI 1) (pc' := 114) rfl rfl rfl (by with_reducible exact nI_add _ _) rfl ?_ | refine wp_iinc4 (w := nI 1) (pc' := 114) rfl rfl rfl rfl rfl ?_
            refine wp_goto rfl ?_
            exact WP.cg (ihb (i + 1) (up1 r2 b (nI 1)) (y + (st b - (sNt st H / H) - (if i < (sNt st H % H) then 1 else 0))) _ (by omega) (by have := fE_up hbr H; rw [if_pos hb] at this; omega) (evn_step hb hbr hbm hvb1) (by first | rfl | assumption)) (lC1 (lI1 (by first | with_reducible rfl | (rw [if_pos (nI_lt_inv (by omega) (by omega) h97)]; done) | (rw [if_neg (fun q => h97 (nI_lt q (by omega)))]; done)) (lI1 (by first | with_reducible rfl | (rw [if_pos (nI_lt_inv (by omega) (by omega) h97)]; done) | (rw [if_neg (fun q => h97 (nI_lt q (by omega)))]; done)) (lI1 (by first | with_reducible rfl | (rw [if_pos (nI_lt_inv (by omega) (by omega) h97)]; done) | (rw [if_neg (fun q => h97 (nI_lt q (by omega)))]; done)) (lI1 (by first | with_reducible rfl | (rw [if_pos (nI_lt_inv (by omega) (by omega) h97)]; done) | (rw [if_neg (fun q => h97 (nI_lt q (by omega)))]; done)) (lC1 rfl)))))) rfl (by rw [up2_upr])
          · intro h97
            refine wp_iconst (v := nI 1) (pc' := 101) rfl rfl rfl ?_
            refine wp_goto rfl ?_
            first | refine wp_isubN (pc' := 106) rfl (by with_reducible rfl) (by with_reducible rfl) (by omega) rfl ?_ | refine wp_isub (pc' := 106) rfl rfl ?_
            refine wp_max (pc' := 109) rfl rfl rfl rfl ?_
            first | rw [jm3 (a := st b) (b := (sNt st H / H)) (d := 1) (by omega) (by omega) (by omega)] | rw [jm3 (a := st b) (b := (sNt st H / H)) (d := 0) (by omega) (by omega) (by omega)]
            first | refine wp_iaddN (pc' := 110) rfl (by with_reducible rfl) (by with_reducible rfl) rfl ?_ | refine wp_iadd (pc' := 110) rfl rfl ?_
            refine wp_istore3 (pc' := 111) rfl (by first | rfl | assumption) rfl ?_
            first | refine wp_iinc4 (w := nI 1) (pc' := 114) rfl rfl rfl (by with_reducible exact nI_add _ _) rfl ?_ | refine wp_iinc4 (w := nI 1) (pc' := 114) rfl rfl rfl rfl rfl ?_
            refine wp_goto rfl ?_
            exact WP.cg (ihb (i + 1) (up1 r2 b (nI 1)) (y + (st b - (sNt st H / H) - (if i < (sNt st H % H) then 1 else 0))) _ (by omega) (by have := fE_up hbr H; rw [if_pos hb] at this; omega) (evn_step hb hbr hbm hvb1) (by first | rfl | assumption)) (lC1 (lI1 (by first | with_reducible rfl | (rw [if_pos (nI_lt_inv (by omega) (by omega) h97)]; done) | (rw [if_neg (fun q => h97 (nI_lt q (by omega)))]; done)) (lI1 (by first | with_reducible rfl | (rw [if_pos (nI_lt_inv (by omega) (by omega) h97)]; done) | (rw [if_neg (fun q => h97 (nI_lt q (by omega)))]; done)) (lI1 (by first | with_reducible rfl | (rw [if_pos (nI_lt_inv (by omega) (by omega) h97)]; done) | (rw [if_neg (fun q => h97 (nI_lt q (by omega)))]; done)) (lI1 (by first | with_reducible rfl | (rw [if_pos (nI_lt_inv (by omega) (by omega) h97)]; done) | (rw [if_neg (fun q => h97 (nI_lt q (by omega)))]; done)) (lC1 rfl)))))) rfl (by rw [up2_upr])
      exact WP.cg (lp60 (H - (0)) (0) (cpy 6 (fun _ => nI 0) (M 334)) 0 _ (by omega) (by rw [(uE_ag (st := st) (e := 0) (r := cpy 6 (fun _ => nI 0) (M 334)) (q := fun _ => nI 0) H (fun h hh => cpy_lt (by omega))).2.2, fE_0, Nat.add_zero]) (by unfold evnV evnT; rw [(uE_ag (st := st) (r := cpy 6 (fun _ => nI 0) (M 334)) (q := fun _ => nI 0) H (fun h hh => cpy_lt (by omega))).1, (uE_ag (st := st) (r := cpy 6 (fun _ => nI 0) (M 334)) (q := fun _ => nI 0) H (fun h hh => cpy_lt (by omega))).2.1]; exact Nat.zero_add _) (by first | rfl | assumption)) (lC1 (lI1 (by rfl) (lI1 (by rfl) (lI1 (by rfl) (lI1 (by rfl) (lC1 rfl)))))) rfl (by rfl)
    | succ r ih =>
      intro i v2 v3 v4 v5 hi hv0 hv1 hv2 hv3
      have hlt : i < 6 := by omega
      refine wp_iload1 (pc' := 17) rfl rfl ?_
      refine wp_bipush (v := nI 6) (pc' := 19) rfl rfl rfl ?_
      refine wp_icmpgeF (pc' := 22) rfl (nI_lt (by omega) (by omega)) rfl ?_
      refine wp_aload0 (pc' := 23) rfl rfl ?_
      refine wp_getRF (pc' := 26) rfl rfl (by first | exact TK.k1 hT rfl | exact TK.kk hT rfl | exact TK.r hT rfl | assumption) (by first | exact TK.k1 hT rfl | exact TK.kk hT rfl | exact TK.r hT rfl | assumption) rfl ?_
      refine wp_iload1 (pc' := 27) rfl rfl ?_
      refine wp_iconst (v := nI 0) (pc' := 28) rfl rfl rfl ?_
      first | refine wp_bast _ (pc' := 29) rfl (by first | exact TK.k1 hT rfl | exact TK.kk hT rfl | exact TK.r hT rfl | assumption) (by omega) (by with_reducible rfl) (by omega) (by first | decide | assumption | omega) rfl ?_ | refine wp_zast _ (pc' := 29) rfl (by first | exact TK.k1 hT rfl | exact TK.kk hT rfl | exact TK.r hT rfl | assumption) (by omega) (by first | exact Or.inl rfl | exact Or.inr rfl) (by with_reducible rfl) (by omega) (by first | decide | assumption | omega) rfl ?_
      first | refine wp_iinc1 (w := nI 1) (pc' := 32) rfl rfl rfl (by with_reducible exact nI_add _ _) rfl ?_ | refine wp_iinc1 (w := nI 1) (pc' := 32) rfl rfl rfl rfl rfl ?_
      refine wp_goto rfl ?_
      exact WP.cg (ih (i + 1) _ _ _ _ (by omega) (by first | rfl | assumption) (by first | rfl | assumption) (by first | rfl | assumption) (by first | rfl | assumption)) (lC1 (lI1 (by rfl) (lC1 (lC1 (lC1 (lC1 rfl)))))) rfl (by rw [up2_upr]; exact congrArg (fun r => (K, upr M 334 r, L, R, n, s)) (cpy_up (f := fun _ => nI 0)))
  exact WP.cg (lp16 (6 - (0)) (0) _ _ _ _ (by omega) (by first | rfl | assumption) (by first | rfl | assumption) (by first | rfl | assumption) (by first | rfl | assumption)) (lC1 (lI1 (by rfl) (lC1 (lC1 (lC1 (lC1 rfl)))))) rfl (by rw [cpy_0, upr_id])
theorem m_even0 {d : Nat} {K : Nat → Nat × Nat} {I : Nat → Nat → Int32} {L : Nat → Nat → Int64} {R : Nat → Nat → Option Nat} {n s : Nat} {Q : Lo → Lm → Prop}  (hT : TK K R n) (hw : I 319 0 = nI 0) (kk : Q (.inl (some (.int (nI 0)))) (K, up2 I 318 0 (nI 0), L, R, n, s)) : Ok (d + 4) 333 [.ref 318] (K, I, L, R, n, s) Q := by
  obtain ⟨-, -, hn⟩ := id hT
  refine Ok.enter (F := F_333) (ls := [.ref 318, lDead, lDead, lDead, lDead, lDead]) rfl rfl ?_
  refine wp_aload0 (pc' := 1) rfl rfl ?_
  refine wp_iconst (v := nI 0) (pc' := 2) rfl rfl rfl ?_
  refine wp_putI (pc' := 5) rfl rfl (by first | exact TK.k1 hT rfl | exact TK.kk hT rfl | exact TK.r hT rfl | assumption) (by omega) rfl ?_
  obtain ⟨M, hM⟩ : ∃ M, M = up2 I 318 0 (nI 0) := ⟨_, rfl⟩
  have hM9 : M 319 = I 319 := by rw [hM]; exact up2_row (by decide)
  have hM7 : M 318 7 = I 318 7 := by rw [hM, up2_same, if_neg (by decide)]
  rw [← hM]
  refine wp_aload0 (pc' := 6) rfl rfl ?_
  refine wp_callV1 (pc' := 9) rfl rfl rfl rfl rfl (by first | exact TK.k1 hT rfl | exact TK.kk hT rfl | exact TK.r hT rfl | assumption) rfl rfl ?_
  refine m_hearths (H := 0) hT (by rw [hM9]; exact hw) ?_
  refine Cont.v ?_
  refine wp_ifneF (pc' := 12) rfl rfl rfl ?_
  refine wp_iconst (v := nI 0) (pc' := 13) rfl rfl rfl ?_
  refine wp_iret rfl rfl rfl ?_
  rw [hM]
  exact kk
