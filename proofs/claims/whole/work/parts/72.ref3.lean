/-! THE REFERENCE: rows copied, what is told, what is cut -/
theorem cpy_up {i : Nat} {f g : Nat → Int32} : up1 (cpy i f g) i (f i) = cpy (i + 1) f g := by
  funext j; unfold up1 cpy
  by_cases h : j = i
  · rw [if_pos h, if_pos (by omega), h]
  · rw [if_neg h]
    by_cases h2 : j < i
    · rw [if_pos h2, if_pos (by omega)]
    · rw [if_neg h2, if_neg (by omega)]
theorem cpy_0 {f g : Nat → Int32} : cpy 0 f g = g := by funext j; unfold cpy; rw [if_neg (by omega)]
theorem cpy_ge {i j : Nat} {f g : Nat → Int32} (h : i ≤ j) : cpy i f g j = g j := by unfold cpy; rw [if_neg (by omega)]
theorem cpy_lt {i j : Nat} {f g : Nat → Int32} (h : j < i) : cpy i f g j = f j := by unfold cpy; rw [if_pos h]
/-- f's first n values, from place o on -/
def cpyO (q n : Nat) (f g : Nat → Int32) : Nat → Int32 := fun j => if q ≤ j ∧ j < q + n then f (j - q) else g j
theorem cpyO_up {q i : Nat} {f g : Nat → Int32} : up1 (cpyO q i f g) (q + i) (f i) = cpyO q (i + 1) f g := by
  funext j; unfold up1 cpyO
  by_cases h : j = q + i
  · rw [if_pos h, if_pos (by omega), h]; congr 1; omega
  · rw [if_neg h]
    by_cases h2 : q ≤ j ∧ j < q + i
    · rw [if_pos h2, if_pos (by omega)]
    · rw [if_neg h2, if_neg (by omega)]
theorem cpyO_0 {q : Nat} {f g : Nat → Int32} : cpyO q 0 f g = g := by funext j; unfold cpyO; rw [if_neg (by omega)]
/-- the told rows, moved by one -/
def shN (i : Nat) (w : Nat → Int32) : Nat → Int32 := fun j => if 483 ≤ j + i ∧ j < 483 then w (j - 5) else w j
theorem shN_0 {w : Nat → Int32} : shN 0 w = w := by funext j; unfold shN; rw [if_neg (by omega)]
theorem shN_lo {i j : Nat} {w : Nat → Int32} (h : j + i < 483) : shN i w j = w j := by unfold shN; rw [if_neg (by omega)]
theorem shN_up {i k : Nat} {w : Nat → Int32} (hk : k = 299 - i) (hi : i < 295) : up1 (shN i w) (183 + k) (w (183 + k - 5)) = shN (i + 1) w := by
  funext j; unfold up1 shN
  by_cases h : j = 183 + k
  · rw [if_pos h, if_pos (by omega), h]
  · rw [if_neg h]
    by_cases h2 : 483 ≤ j + i ∧ j < 483
    · rw [if_pos h2, if_pos (by omega)]
    · rw [if_neg h2, if_neg (by omega)]
def tolW (w : Nat → Int32) (h c k t : Int32) : Nat → Int32 := up1 (up1 (up1 (up1 (up1 (up1 (shN 295 w) 183 (w 6)) 184 h) 185 c) 186 k) 187 t) 7 (jmin (nI 60) (w 7 + nI 1))
theorem tolW_lo {w : Nat → Int32} {h c k t : Int32} {j : Nat} (h1 : j < 183) (h7 : j ≠ 7) : tolW w h c k t j = w j := by
  unfold tolW
  rw [up1_ne h7, up1_ne (by omega), up1_ne (by omega), up1_ne (by omega), up1_ne (by omega), up1_ne (by omega), shN_lo (by omega)]
def cutW (w : Nat → Int32) (h c : Nat) (k : Int32) : Nat → Int32 := tolW (up1 (up1 (up1 (up1 w (9 + 6 * c + 4) (w (9 + 6 * c + 4) * w (9 + 6 * c + 3) / (w (9 + 6 * c + 3) + w (159 + 4 * h + 0)))) (9 + 6 * c + 5) (nI 0)) (9 + 6 * c + 3) (w (9 + 6 * c + 3) + w (159 + 4 * h + 0))) (9 + 6 * c + 0) (w (9 + 6 * c + 0) - nI 1)) (nI h) (nI c) k (w (159 + 4 * h + 0))
def soaS (dr le : Int32) (c : Nat) (u : Nat → Int32) : Nat → Int32 := up1 u (9 + 6 * c + 1) (jmax (nI 0) (jmin (nI 9) (u (9 + 6 * c + 1) + u 5 - (jshr le (nI c) &&& nI 1) - (jshr dr (nI c) &&& nI 1))))
def soaW (w : Nat → Int32) (i : Nat) : Nat → Int32 := forN (fun c u => soaS (alW w) (widC (alW w) (nI 33554431)) c u) w i

theorem m_keepsAll {d : Nat} {K : Nat → Nat × Nat} {I : Nat → Nat → Int32} {L : Nat → Nat → Int64} {R : Nat → Nat → Option Nat} {n s : Nat} {Q : Lo → Lm → Prop}  (hT : TK K R n) (kk : Q (.inl none) (K, upr I 322 (cpy 483 (I 319) (I 322)), L, R, n, s)) : Ok (d + 1) 275 [.ref 318] (K, I, L, R, n, s) Q := by
  obtain ⟨-, -, hn⟩ := id hT
  refine Ok.enter (F := F_275) (ls := [.ref 318, lDead]) rfl rfl ?_
  refine wp_iconst (v := nI 0) (pc' := 1) rfl rfl rfl ?_
  refine wp_istore1 (pc' := 2) rfl (by first | rfl | assumption) rfl ?_
  have lp2 : ∀ r (i : Nat), i + r = 483 → WP d F_275 2 [.ref 318, .int (nI i)] [] (K, upr I 322 (cpy i (I 319) (I 322)), L, R, n, s) Q := by
    intro r; induction r with
    | zero =>
      intro i hi 
      have hi2 : i = 483 := by omega
      subst hi2
      refine wp_iload1 (pc' := 3) rfl rfl ?_
      refine wp_sipush (v := nI 483) (pc' := 6) rfl rfl rfl ?_
      refine wp_icmpgeT rfl (nI_nlt (by omega) (by omega)) ?_
      refine wp_vret rfl rfl ?_
      exact kk
    | succ r ih =>
      intro i hi 
      have hlt : i < 483 := by omega
      refine wp_iload1 (pc' := 3) rfl rfl ?_
      refine wp_sipush (v := nI 483) (pc' := 6) rfl rfl rfl ?_
      refine wp_icmpgeF (pc' := 9) rfl (nI_lt (by omega) (by omega)) rfl ?_
      refine wp_aload0 (pc' := 10) rfl rfl ?_
      refine wp_getRF (pc' := 13) rfl rfl (by first | exact TK.k1 hT rfl | exact TK.kk hT rfl | exact TK.r hT rfl | assumption) (by first | exact TK.k1 hT rfl | exact TK.kk hT rfl | exact TK.r hT rfl | assumption) rfl ?_
      refine wp_iload1 (pc' := 14) rfl rfl ?_
      refine wp_aload0 (pc' := 15) rfl rfl ?_
      refine wp_getRF (pc' := 18) rfl rfl (by first | exact TK.k1 hT rfl | exact TK.kk hT rfl | exact TK.r hT rfl | assumption) (by first | exact TK.k1 hT rfl | exact TK.kk hT rfl | exact TK.r hT rfl | assumption) rfl ?_
      refine wp_iload1 (pc' := 19) rfl rfl ?_
      refine wp_iald _ (pc' := 20) rfl (by first | exact TK.k1 hT rfl | exact TK.kk hT rfl | exact TK.r hT rfl | assumption) (by with_reducible rfl) (by omega) (by first | decide | assumption | omega) rfl ?_
      refine wp_iast _ (pc' := 21) rfl (by first | exact TK.k1 hT rfl | exact TK.kk hT rfl | exact TK.r hT rfl | assumption) (by omega) (by with_reducible rfl) (by omega) (by first | decide | assumption | omega) rfl ?_
      first | refine wp_iinc1 (w := nI 1) (pc' := 24) rfl rfl rfl (by with_reducible exact nI_add _ _) rfl ?_ | refine wp_iinc1 (w := nI 1) (pc' := 24) rfl rfl rfl rfl rfl ?_
      refine wp_goto rfl ?_
      exact WP.cg (ih (i + 1) (by omega)) (lC1 (lI1 (by rfl) rfl)) rfl (by rw [up2_upr, upr_ne (show (319 : Nat) ≠ 322 by decide), cpy_up])
  exact WP.cg (lp2 (483 - (0)) (0) (by omega)) (lC1 (lI1 (by rfl) rfl)) rfl (by rw [cpy_0, upr_id])
theorem m_bringsBack {d : Nat} {K : Nat → Nat × Nat} {I : Nat → Nat → Int32} {L : Nat → Nat → Int64} {R : Nat → Nat → Option Nat} {n s : Nat} {Q : Lo → Lm → Prop}  (hT : TK K R n) (kk : Q (.inl none) (K, upr I 319 (cpy 483 (I 322) (I 319)), L, R, n, s)) : Ok (d + 1) 284 [.ref 318] (K, I, L, R, n, s) Q := by
  obtain ⟨-, -, hn⟩ := id hT
  refine Ok.enter (F := F_284) (ls := [.ref 318, lDead]) rfl rfl ?_
  refine wp_iconst (v := nI 0) (pc' := 1) rfl rfl rfl ?_
  refine wp_istore1 (pc' := 2) rfl (by first | rfl | assumption) rfl ?_
  have lp2 : ∀ r (i : Nat), i + r = 483 → WP d F_284 2 [.ref 318, .int (nI i)] [] (K, upr I 319 (cpy i (I 322) (I 319)), L, R, n, s) Q := by
    intro r; induction r with
    | zero =>
      intro i hi 
      have hi2 : i = 483 := by omega
      subst hi2
      refine wp_iload1 (pc' := 3) rfl rfl ?_
      refine wp_sipush (v := nI 483) (pc' := 6) rfl rfl rfl ?_
      refine wp_icmpgeT rfl (nI_nlt (by omega) (by omega)) ?_
      refine wp_vret rfl rfl ?_
      exact kk
    | succ r ih =>
      intro i hi 
      have hlt : i < 483 := by omega
      refine wp_iload1 (pc' := 3) rfl rfl ?_
      refine wp_sipush (v := nI 483) (pc' := 6) rfl rfl rfl ?_
      refine wp_icmpgeF (pc' := 9) rfl (nI_lt (by omega) (by omega)) rfl ?_
      refine wp_aload0 (pc' := 10) rfl rfl ?_
      refine wp_getRF (pc' := 13) rfl rfl (by first | exact TK.k1 hT rfl | exact TK.kk hT rfl | exact TK.r hT rfl | assumption) (by first | exact TK.k1 hT rfl | exact TK.kk hT rfl | exact TK.r hT rfl | assumption) rfl ?_
      refine wp_iload1 (pc' := 14) rfl rfl ?_
      refine wp_aload0 (pc' := 15) rfl rfl ?_
      refine wp_getRF (pc' := 18) rfl rfl (by first | exact TK.k1 hT rfl | exact TK.kk hT rfl | exact TK.r hT rfl | assumption) (by first | exact TK.k1 hT rfl | exact TK.kk hT rfl | exact TK.r hT rfl | assumption) rfl ?_
      refine wp_iload1 (pc' := 19) rfl rfl ?_
      refine wp_iald _ (pc' := 20) rfl (by first | exact TK.k1 hT rfl | exact TK.kk hT rfl | exact TK.r hT rfl | assumption) (by with_reducible rfl) (by omega) (by first | decide | assumption | omega) rfl ?_
      refine wp_iast _ (pc' := 21) rfl (by first | exact TK.k1 hT rfl | exact TK.kk hT rfl | exact TK.r hT rfl | assumption) (by omega) (by with_reducible rfl) (by omega) (by first | decide | assumption | omega) rfl ?_
      first | refine wp_iinc1 (w := nI 1) (pc' := 24) rfl rfl rfl (by with_reducible exact nI_add _ _) rfl ?_ | refine wp_iinc1 (w := nI 1) (pc' := 24) rfl rfl rfl rfl rfl ?_
      refine wp_goto rfl ?_
      exact WP.cg (ih (i + 1) (by omega)) (lC1 (lI1 (by rfl) rfl)) rfl (by rw [up2_upr, upr_ne (show (322 : Nat) ≠ 319 by decide), cpy_up])
  exact WP.cg (lp2 (483 - (0)) (0) (by omega)) (lC1 (lI1 (by rfl) rfl)) rfl (by rw [cpy_0, upr_id])
theorem m_image {d : Nat} {K : Nat → Nat × Nat} {I : Nat → Nat → Int32} {L : Nat → Nat → Int64} {R : Nat → Nat → Option Nat} {n s : Nat} {Q : Lo → Lm → Prop}  (hT : TK K R n) (kk : Q (.inl none) (K, up2 (upr (up2 I 318 0 (nI 0)) 320 (cpy 1332 ((up2 I 318 0 (nI 0)) 319) ((up2 I 318 0 (nI 0)) 320))) 318 6 (nI 1), L, R, n, s)) : Ok (d + 1) 213 [.ref 318] (K, I, L, R, n, s) Q := by
  obtain ⟨-, -, hn⟩ := id hT
  refine Ok.enter (F := F_213) (ls := [.ref 318, lDead]) rfl rfl ?_
  refine wp_aload0 (pc' := 1) rfl rfl ?_
  refine wp_iconst (v := nI 0) (pc' := 2) rfl rfl rfl ?_
  refine wp_putI (pc' := 5) rfl rfl (by first | exact TK.k1 hT rfl | exact TK.kk hT rfl | exact TK.r hT rfl | assumption) (by omega) rfl ?_
  obtain ⟨M, hM⟩ : ∃ M, M = up2 I 318 0 (nI 0) := ⟨_, rfl⟩
  rw [← hM]
  refine wp_iconst (v := nI 0) (pc' := 6) rfl rfl rfl ?_
  refine wp_istore1 (pc' := 7) rfl (by first | rfl | assumption) rfl ?_
  have lp7 : ∀ r (i : Nat), i + r = 1332 → WP d F_213 7 [.ref 318, .int (nI i)] [] (K, upr M 320 (cpy i (M 319) (M 320)), L, R, n, s) Q := by
    intro r; induction r with
    | zero =>
      intro i hi 
      have hi2 : i = 1332 := by omega
      subst hi2
      refine wp_iload1 (pc' := 8) rfl rfl ?_
      refine wp_sipush (v := nI 1332) (pc' := 11) rfl rfl rfl ?_
      refine wp_icmpgeT rfl (nI_nlt (by omega) (by omega)) ?_
      refine wp_aload0 (pc' := 33) rfl rfl ?_
      refine wp_iconst (v := nI 1) (pc' := 34) rfl rfl rfl ?_
      refine wp_putZ (pc' := 37) rfl rfl (by first | exact TK.k1 hT rfl | exact TK.kk hT rfl | exact TK.r hT rfl | assumption) (by omega) (by first | exact Or.inl rfl | exact Or.inr rfl) rfl ?_
      refine wp_vret rfl rfl ?_
      rw [hM]
      exact kk
    | succ r ih =>
      intro i hi 
      have hlt : i < 1332 := by omega
      refine wp_iload1 (pc' := 8) rfl rfl ?_
      refine wp_sipush (v := nI 1332) (pc' := 11) rfl rfl rfl ?_
      refine wp_icmpgeF (pc' := 14) rfl (nI_lt (by omega) (by omega)) rfl ?_
      refine wp_aload0 (pc' := 15) rfl rfl ?_
      refine wp_getRF (pc' := 18) rfl rfl (by first | exact TK.k1 hT rfl | exact TK.kk hT rfl | exact TK.r hT rfl | assumption) (by first | exact TK.k1 hT rfl | exact TK.kk hT rfl | exact TK.r hT rfl | assumption) rfl ?_
      refine wp_iload1 (pc' := 19) rfl rfl ?_
      refine wp_aload0 (pc' := 20) rfl rfl ?_
      refine wp_getRF (pc' := 23) rfl rfl (by first | exact TK.k1 hT rfl | exact TK.kk hT rfl | exact TK.r hT rfl | assumption) (by first | exact TK.k1 hT rfl | exact TK.kk hT rfl | exact TK.r hT rfl | assumption) rfl ?_
      refine wp_iload1 (pc' := 24) rfl rfl ?_
      refine wp_iald _ (pc' := 25) rfl (by first | exact TK.k1 hT rfl | exact TK.kk hT rfl | exact TK.r hT rfl | assumption) (by with_reducible rfl) (by omega) (by first | decide | assumption | omega) rfl ?_
      refine wp_iast _ (pc' := 26) rfl (by first | exact TK.k1 hT rfl | exact TK.kk hT rfl | exact TK.r hT rfl | assumption) (by omega) (by with_reducible rfl) (by omega) (by first | decide | assumption | omega) rfl ?_
      first | refine wp_iinc1 (w := nI 1) (pc' := 29) rfl rfl rfl (by with_reducible exact nI_add _ _) rfl ?_ | refine wp_iinc1 (w := nI 1) (pc' := 29) rfl rfl rfl rfl rfl ?_
      refine wp_goto rfl ?_
      exact WP.cg (ih (i + 1) (by omega)) (lC1 (lI1 (by rfl) rfl)) rfl (by rw [up2_upr, upr_ne (show (319 : Nat) ≠ 320 by decide), cpy_up])
  exact WP.cg (lp7 (1332 - (0)) (0) (by omega)) (lC1 (lI1 (by rfl) rfl)) rfl (by rw [cpy_0, upr_id])
theorem m_back1 {d : Nat} {K : Nat → Nat × Nat} {I : Nat → Nat → Int32} {L : Nat → Nat → Int64} {R : Nat → Nat → Option Nat} {n s : Nat} {Q : Lo → Lm → Prop}  (hT : TK K R n) (hi1 : I 318 6 = nI 1) (kk : Q (.inl (some (.int (nI 1)))) (K, up2 (upr (up2 I 318 0 (nI 0)) 319 (cpy 1332 ((up2 I 318 0 (nI 0)) 320) ((up2 I 318 0 (nI 0)) 319))) 318 7 (nI 0), L, R, n, s)) : Ok (d + 1) 214 [.ref 318] (K, I, L, R, n, s) Q := by
  obtain ⟨-, -, hn⟩ := id hT
  refine Ok.enter (F := F_214) (ls := [.ref 318, lDead]) rfl rfl ?_
  refine wp_aload0 (pc' := 1) rfl rfl ?_
  refine wp_iconst (v := nI 0) (pc' := 2) rfl rfl rfl ?_
  refine wp_putI (pc' := 5) rfl rfl (by first | exact TK.k1 hT rfl | exact TK.kk hT rfl | exact TK.r hT rfl | assumption) (by omega) rfl ?_
  obtain ⟨M, hM⟩ : ∃ M, M = up2 I 318 0 (nI 0) := ⟨_, rfl⟩
  rw [← hM]
  have hM6 : M 318 6 = I 318 6 := by rw [hM, up2_same, if_neg (by decide)]
  refine wp_aload0 (pc' := 6) rfl rfl ?_
  refine wp_getZ (pc' := 9) rfl rfl (by first | exact TK.k1 hT rfl | exact TK.kk hT rfl | exact TK.r hT rfl | assumption) rfl ?_
  rw [hM6]
  refine wp_ifneT rfl (by rw [hi1]; decide) ?_
  refine wp_iconst (v := nI 0) (pc' := 15) rfl rfl rfl ?_
  refine wp_istore1 (pc' := 16) rfl (by first | rfl | assumption) rfl ?_
  have lp16 : ∀ r (i : Nat), i + r = 1332 → WP d F_214 16 [.ref 318, .int (nI i)] [] (K, upr M 319 (cpy i (M 320) (M 319)), L, R, n, s) Q := by
    intro r; induction r with
    | zero =>
      intro i hi 
      have hi2 : i = 1332 := by omega
      subst hi2
      refine wp_iload1 (pc' := 17) rfl rfl ?_
      refine wp_sipush (v := nI 1332) (pc' := 20) rfl rfl rfl ?_
      refine wp_icmpgeT rfl (nI_nlt (by omega) (by omega)) ?_
      refine wp_aload0 (pc' := 42) rfl rfl ?_
      refine wp_iconst (v := nI 0) (pc' := 43) rfl rfl rfl ?_
      refine wp_putI (pc' := 46) rfl rfl (by first | exact TK.k1 hT rfl | exact TK.kk hT rfl | exact TK.r hT rfl | assumption) (by omega) rfl ?_
      refine wp_iconst (v := nI 1) (pc' := 47) rfl rfl rfl ?_
      refine wp_iret rfl rfl (by first | rfl | exact nar_if) ?_
      rw [hM]
      exact kk
    | succ r ih =>
      intro i hi 
      have hlt : i < 1332 := by omega
      refine wp_iload1 (pc' := 17) rfl rfl ?_
      refine wp_sipush (v := nI 1332) (pc' := 20) rfl rfl rfl ?_
      refine wp_icmpgeF (pc' := 23) rfl (nI_lt (by omega) (by omega)) rfl ?_
      refine wp_aload0 (pc' := 24) rfl rfl ?_
      refine wp_getRF (pc' := 27) rfl rfl (by first | exact TK.k1 hT rfl | exact TK.kk hT rfl | exact TK.r hT rfl | assumption) (by first | exact TK.k1 hT rfl | exact TK.kk hT rfl | exact TK.r hT rfl | assumption) rfl ?_
      refine wp_iload1 (pc' := 28) rfl rfl ?_
      refine wp_aload0 (pc' := 29) rfl rfl ?_
      refine wp_getRF (pc' := 32) rfl rfl (by first | exact TK.k1 hT rfl | exact TK.kk hT rfl | exact TK.r hT rfl | assumption) (by first | exact TK.k1 hT rfl | exact TK.kk hT rfl | exact TK.r hT rfl | assumption) rfl ?_
      refine wp_iload1 (pc' := 33) rfl rfl ?_
      refine wp_iald _ (pc' := 34) rfl (by first | exact TK.k1 hT rfl | exact TK.kk hT rfl | exact TK.r hT rfl | assumption) (by with_reducible rfl) (by omega) (by first | decide | assumption | omega) rfl ?_
      refine wp_iast _ (pc' := 35) rfl (by first | exact TK.k1 hT rfl | exact TK.kk hT rfl | exact TK.r hT rfl | assumption) (by omega) (by with_reducible rfl) (by omega) (by first | decide | assumption | omega) rfl ?_
      first | refine wp_iinc1 (w := nI 1) (pc' := 38) rfl rfl rfl (by with_reducible exact nI_add _ _) rfl ?_ | refine wp_iinc1 (w := nI 1) (pc' := 38) rfl rfl rfl rfl rfl ?_
      refine wp_goto rfl ?_
      exact WP.cg (ih (i + 1) (by omega)) (lC1 (lI1 (by rfl) rfl)) rfl (by rw [up2_upr, upr_ne (show (320 : Nat) ≠ 319 by decide), cpy_up])
  exact WP.cg (lp16 (1332 - (0)) (0) (by omega)) (lC1 (lI1 (by rfl) rfl)) rfl (by rw [cpy_0, upr_id])
theorem m_back0 {d : Nat} {K : Nat → Nat × Nat} {I : Nat → Nat → Int32} {L : Nat → Nat → Int64} {R : Nat → Nat → Option Nat} {n s : Nat} {Q : Lo → Lm → Prop}  (hT : TK K R n) (hi0 : I 318 6 = nI 0) (kk : Q (.inl (some (.int (nI 0)))) (K, up2 I 318 0 (nI 0), L, R, n, s)) : Ok (d + 1) 214 [.ref 318] (K, I, L, R, n, s) Q := by
  obtain ⟨-, -, hn⟩ := id hT
  refine Ok.enter (F := F_214) (ls := [.ref 318, lDead]) rfl rfl ?_
  refine wp_aload0 (pc' := 1) rfl rfl ?_
  refine wp_iconst (v := nI 0) (pc' := 2) rfl rfl rfl ?_
  refine wp_putI (pc' := 5) rfl rfl (by first | exact TK.k1 hT rfl | exact TK.kk hT rfl | exact TK.r hT rfl | assumption) (by omega) rfl ?_
  obtain ⟨M, hM⟩ : ∃ M, M = up2 I 318 0 (nI 0) := ⟨_, rfl⟩
  rw [← hM]
  have hM6 : M 318 6 = I 318 6 := by rw [hM, up2_same, if_neg (by decide)]
  refine wp_aload0 (pc' := 6) rfl rfl ?_
  refine wp_getZ (pc' := 9) rfl rfl (by first | exact TK.k1 hT rfl | exact TK.kk hT rfl | exact TK.r hT rfl | assumption) rfl ?_
  rw [hM6]
  refine wp_ifneF (pc' := 12) rfl hi0 rfl ?_
  refine wp_iconst (v := nI 0) (pc' := 13) rfl rfl rfl ?_
  refine wp_iret rfl rfl (by first | rfl | exact nar_if) ?_
  rw [hM]
  exact kk
theorem m_undo0 {d : Nat} {K : Nat → Nat × Nat} {I : Nat → Nat → Int32} {L : Nat → Nat → Int64} {R : Nat → Nat → Option Nat} {n s : Nat} {Q : Lo → Lm → Prop}  (hT : TK K R n) (hi0 : I 318 7 = nI 0) (kk : Q (.inl (some (.int (nI 0)))) (K, up2 I 318 0 (nI 0), L, R, n, s)) : Ok (d + 1) 215 [.ref 318] (K, I, L, R, n, s) Q := by
  obtain ⟨-, -, hn⟩ := id hT
  refine Ok.enter (F := F_215) (ls := [.ref 318, lDead]) rfl rfl ?_
  refine wp_aload0 (pc' := 1) rfl rfl ?_
  refine wp_iconst (v := nI 0) (pc' := 2) rfl rfl rfl ?_
  refine wp_putI (pc' := 5) rfl rfl (by first | exact TK.k1 hT rfl | exact TK.kk hT rfl | exact TK.r hT rfl | assumption) (by omega) rfl ?_
  obtain ⟨M, hM⟩ : ∃ M, M = up2 I 318 0 (nI 0) := ⟨_, rfl⟩
  rw [← hM]
  have hM7 : M 318 7 = I 318 7 := by rw [hM, up2_same, if_neg (by decide)]
  refine wp_aload0 (pc' := 6) rfl rfl ?_
  refine wp_getI (pc' := 9) rfl rfl (by first | exact TK.k1 hT rfl | exact TK.kk hT rfl | exact TK.r hT rfl | assumption) rfl ?_
  rw [hM7]
  refine wp_ifneF (pc' := 12) rfl hi0 rfl ?_
  refine wp_iconst (v := nI 0) (pc' := 13) rfl rfl rfl ?_
  refine wp_iret rfl rfl (by first | rfl | exact nar_if) ?_
  rw [hM]
  exact kk
theorem m_undo1 {d : Nat} {K : Nat → Nat × Nat} {I : Nat → Nat → Int32} {L : Nat → Nat → Int64} {R : Nat → Nat → Option Nat} {n s : Nat} {Q : Lo → Lm → Prop} {A : Nat} (hT : TK K R n) (hA : I 318 7 = nI (A + 1)) (hA12 : A < 12) (kk : Q (.inl (some (.int (nI 1)))) (K, upr (up2 (up2 I 318 0 (nI 0)) 318 7 (nI A)) 319 (cpy 483 (fun k => (up2 (up2 I 318 0 (nI 0)) 318 7 (nI A)) 323 (483 * A + k)) ((up2 (up2 I 318 0 (nI 0)) 318 7 (nI A)) 319)), L, R, n, s)) : Ok (d + 1) 215 [.ref 318] (K, I, L, R, n, s) Q := by
  obtain ⟨-, -, hn⟩ := id hT
  refine Ok.enter (F := F_215) (ls := [.ref 318, lDead]) rfl rfl ?_
  refine wp_aload0 (pc' := 1) rfl rfl ?_
  refine wp_iconst (v := nI 0) (pc' := 2) rfl rfl rfl ?_
  refine wp_putI (pc' := 5) rfl rfl (by first | exact TK.k1 hT rfl | exact TK.kk hT rfl | exact TK.r hT rfl | assumption) (by omega) rfl ?_
  obtain ⟨M, hM⟩ : ∃ M, M = up2 I 318 0 (nI 0) := ⟨_, rfl⟩
  rw [← hM]
  have hM7 : M 318 7 = I 318 7 := by rw [hM, up2_same, if_neg (by decide)]
  refine wp_aload0 (pc' := 6) rfl rfl ?_
  refine wp_getI (pc' := 9) rfl rfl (by first | exact TK.k1 hT rfl | exact TK.kk hT rfl | exact TK.r hT rfl | assumption) rfl ?_
  rw [hM7, hA]
  refine wp_ifneT rfl (fun q => absurd ((nI_eq (by omega) (by decide)).mp q) (by omega)) ?_
  refine wp_aload0 (pc' := 15) rfl rfl ?_
  refine wp_dup (pc' := 16) rfl rfl rfl ?_
  refine wp_getI (pc' := 19) rfl rfl (by first | exact TK.k1 hT rfl | exact TK.kk hT rfl | exact TK.r hT rfl | assumption) rfl ?_
  rw [hM7, hA]
  refine wp_iconst (v := nI 1) (pc' := 20) rfl rfl rfl ?_
  first | refine wp_isubN (pc' := 21) rfl (by with_reducible rfl) (by with_reducible rfl) (by omega) rfl ?_ | refine wp_isub (pc' := 21) rfl rfl ?_
  refine wp_putI (pc' := 24) rfl rfl (by first | exact TK.k1 hT rfl | exact TK.kk hT rfl | exact TK.r hT rfl | assumption) (by omega) rfl ?_
  rw [show A + 1 - 1 = A from rfl]
  obtain ⟨N, hN⟩ : ∃ N, N = up2 M 318 7 (nI A) := ⟨_, rfl⟩
  rw [← hN]
  have hN7 : N 318 7 = nI A := by rw [hN, up2_hit]
  refine wp_iconst (v := nI 0) (pc' := 25) rfl rfl rfl ?_
  refine wp_istore1 (pc' := 26) rfl (by first | rfl | assumption) rfl ?_
  have lp26 : ∀ r (i : Nat), i + r = 483 → WP d F_215 26 [.ref 318, .int (nI i)] [] (K, upr N 319 (cpy i (fun k => N 323 (483 * A + k)) (N 319)), L, R, n, s) Q := by
    intro r; induction r with
    | zero =>
      intro i hi 
      have hi2 : i = 483 := by omega
      subst hi2
      refine wp_iload1 (pc' := 27) rfl rfl ?_
      refine wp_sipush (v := nI 483) (pc' := 30) rfl rfl rfl ?_
      refine wp_icmpgeT rfl (nI_nlt (by omega) (by omega)) ?_
      refine wp_iconst (v := nI 1) (pc' := 61) rfl rfl rfl ?_
      refine wp_iret rfl rfl (by first | rfl | exact nar_if) ?_
      rw [hN, hM]
      exact kk
    | succ r ih =>
      intro i hi 
      have hlt : i < 483 := by omega
      refine wp_iload1 (pc' := 27) rfl rfl ?_
      refine wp_sipush (v := nI 483) (pc' := 30) rfl rfl rfl ?_
      refine wp_icmpgeF (pc' := 33) rfl (nI_lt (by omega) (by omega)) rfl ?_
      refine wp_aload0 (pc' := 34) rfl rfl ?_
      refine wp_getRF (pc' := 37) rfl rfl (by first | exact TK.k1 hT rfl | exact TK.kk hT rfl | exact TK.r hT rfl | assumption) (by first | exact TK.k1 hT rfl | exact TK.kk hT rfl | exact TK.r hT rfl | assumption) rfl ?_
      refine wp_iload1 (pc' := 38) rfl rfl ?_
      refine wp_aload0 (pc' := 39) rfl rfl ?_
      refine wp_getRF (pc' := 42) rfl rfl (by first | exact TK.k1 hT rfl | exact TK.kk hT rfl | exact TK.r hT rfl | assumption) (by first | exact TK.k1 hT rfl | exact TK.kk hT rfl | exact TK.r hT rfl | assumption) rfl ?_
      refine wp_sipush (v := nI 483) (pc' := 45) rfl rfl rfl ?_
      refine wp_aload0 (pc' := 46) rfl rfl ?_
      refine wp_getI (pc' := 49) rfl rfl (by first | exact TK.k1 hT rfl | exact TK.kk hT rfl | exact TK.r hT rfl | assumption) rfl ?_
      rw [upr_ne (by decide), hN7]
      first | refine wp_imulN (pc' := 50) rfl (by with_reducible rfl) (by with_reducible rfl) rfl ?_ | refine wp_imul (pc' := 50) rfl rfl ?_
      refine wp_iload1 (pc' := 51) rfl rfl ?_
      first | refine wp_iaddN (pc' := 52) rfl (by with_reducible rfl) (by with_reducible rfl) rfl ?_ | refine wp_iadd (pc' := 52) rfl rfl ?_
      refine wp_iald _ (pc' := 53) rfl (by first | exact TK.k1 hT rfl | exact TK.kk hT rfl | exact TK.r hT rfl | assumption) (by with_reducible rfl) (by omega) (by first | decide | assumption | omega) rfl ?_
      refine wp_iast _ (pc' := 54) rfl (by first | exact TK.k1 hT rfl | exact TK.kk hT rfl | exact TK.r hT rfl | assumption) (by omega) (by with_reducible rfl) (by omega) (by first | decide | assumption | omega) rfl ?_
      first | refine wp_iinc1 (w := nI 1) (pc' := 57) rfl rfl rfl (by with_reducible exact nI_add _ _) rfl ?_ | refine wp_iinc1 (w := nI 1) (pc' := 57) rfl rfl rfl rfl rfl ?_
      refine wp_goto rfl ?_
      exact WP.cg (ih (i + 1) (by omega)) (lC1 (lI1 (by rfl) rfl)) rfl (by rw [up2_upr, upr_ne (show (323 : Nat) ≠ 319 by decide), cpy_up (f := fun k => N 323 (483 * A + k))])
  exact WP.cg (lp26 (483 - (0)) (0) (by omega)) (lC1 (lI1 (by rfl) rfl)) rfl (by rw [cpy_0, upr_id])
theorem m_rem12 {d : Nat} {K : Nat → Nat × Nat} {I : Nat → Nat → Int32} {L : Nat → Nat → Int64} {R : Nat → Nat → Option Nat} {n s : Nat} {Q : Lo → Lm → Prop}  (hT : TK K R n) (hA : I 318 7 = nI 12) (kk : Q (.inl none) (K, upr I 323 (cpyO 5313 483 (I 319) (cpy 5313 (fun k => I 323 (k + 483)) (I 323))), L, R, n, s)) : Ok (d + 1) 291 [.ref 318] (K, I, L, R, n, s) Q := by
  obtain ⟨-, -, hn⟩ := id hT
  refine Ok.enter (F := F_291) (ls := [.ref 318, lDead]) rfl rfl ?_
  refine wp_aload0 (pc' := 1) rfl rfl ?_
  refine wp_getI (pc' := 4) rfl rfl (by first | exact TK.k1 hT rfl | exact TK.kk hT rfl | exact TK.r hT rfl | assumption) rfl ?_
  rw [hA]
  refine wp_bipush (v := nI 12) (pc' := 6) rfl rfl rfl ?_
  refine wp_icmpneF (pc' := 9) rfl rfl rfl ?_
  refine wp_iconst (v := nI 0) (pc' := 10) rfl rfl rfl ?_
  refine wp_istore1 (pc' := 11) rfl (by first | rfl | assumption) rfl ?_
  have lp11 : ∀ r (i : Nat), i + r = 5313 → WP d F_291 11 [.ref 318, .int (nI i)] [] (K, upr I 323 (cpy i (fun k => I 323 (k + 483)) (I 323)), L, R, n, s) Q := by
    intro r; induction r with
    | zero =>
      intro i hi 
      have hi2 : i = 5313 := by omega
      subst hi2
      refine wp_iload1 (pc' := 12) rfl rfl ?_
      refine wp_sipush (v := nI 5313) (pc' := 15) rfl rfl rfl ?_
      refine wp_icmpgeT rfl (nI_nlt (by omega) (by omega)) ?_
      refine wp_goto rfl ?_
      obtain ⟨M, hM⟩ : ∃ M, M = upr I 323 (cpy 5313 (fun k => I 323 (k + 483)) (I 323)) := ⟨_, rfl⟩
      have hM7 : M 318 7 = nI 12 := by rw [hM, upr_ne (by decide)]; exact hA
      rw [← hM]
      refine wp_iconst (v := nI 0) (pc' := 54) rfl rfl rfl ?_
      refine wp_istore1 (pc' := 55) rfl (by first | rfl | assumption) rfl ?_
      have lp55 : ∀ rb (i : Nat), i + rb = 483 → WP d F_291 55 [.ref 318, .int (nI i)] [] (K, upr M 323 (cpyO 5313 i (M 319) (M 323)), L, R, n, s) Q := by
        intro rb; induction rb with
        | zero =>
          intro i hib 
          have hi2b : i = 483 := by omega
          subst hi2b
          refine wp_iload1 (pc' := 56) rfl rfl ?_
          refine wp_sipush (v := nI 483) (pc' := 59) rfl rfl rfl ?_
          refine wp_icmpgeT rfl (nI_nlt (by omega) (by omega)) ?_
          refine wp_vret rfl rfl ?_
          refine Qu kk ?_
          rw [hM, upr_upr, upr_same, upr_ne (show (319 : Nat) ≠ 323 by decide)]
        | succ rb ihb =>
          intro i hib 
          have hltb : i < 483 := by omega
          refine wp_iload1 (pc' := 56) rfl rfl ?_
          refine wp_sipush (v := nI 483) (pc' := 59) rfl rfl rfl ?_
          refine wp_icmpgeF (pc' := 62) rfl (nI_lt (by omega) (by omega)) rfl ?_
          refine wp_aload0 (pc' := 63) rfl rfl ?_
          refine wp_getRF (pc' := 66) rfl rfl (by first | exact TK.k1 hT rfl | exact TK.kk hT rfl | exact TK.r hT rfl | assumption) (by first | exact TK.k1 hT rfl | exact TK.kk hT rfl | exact TK.r hT rfl | assumption) rfl ?_
          refine wp_sipush (v := nI 483) (pc' := 69) rfl rfl rfl ?_
          refine wp_aload0 (pc' := 70) rfl rfl ?_
          refine wp_getI (pc' := 73) rfl rfl (by first | exact TK.k1 hT rfl | exact TK.kk hT rfl | exact TK.r hT rfl | assumption) rfl ?_
          rw [upr_ne (show (318 : Nat) ≠ 323 by decide), hM7]
          refine wp_iconst (v := nI 1) (pc' := 74) rfl rfl rfl ?_
          first | refine wp_isubN (pc' := 75) rfl (by with_reducible rfl) (by with_reducible rfl) (by omega) rfl ?_ | refine wp_isub (pc' := 75) rfl rfl ?_
          first | refine wp_imulN (pc' := 76) rfl (by with_reducible rfl) (by with_reducible rfl) rfl ?_ | refine wp_imul (pc' := 76) rfl rfl ?_
          refine wp_iload1 (pc' := 77) rfl rfl ?_
          first | refine wp_iaddN (pc' := 78) rfl (by with_reducible rfl) (by with_reducible rfl) rfl ?_ | refine wp_iadd (pc' := 78) rfl rfl ?_
          refine wp_aload0 (pc' := 79) rfl rfl ?_
          refine wp_getRF (pc' := 82) rfl rfl (by first | exact TK.k1 hT rfl | exact TK.kk hT rfl | exact TK.r hT rfl | assumption) (by first | exact TK.k1 hT rfl | exact TK.kk hT rfl | exact TK.r hT rfl | assumption) rfl ?_
          refine wp_iload1 (pc' := 83) rfl rfl ?_
          refine wp_iald _ (pc' := 84) rfl (by first | exact TK.k1 hT rfl | exact TK.kk hT rfl | exact TK.r hT rfl | assumption) (by with_reducible rfl) (by omega) (by first | decide | assumption | omega) rfl ?_
          refine wp_iast _ (pc' := 85) rfl (by first | exact TK.k1 hT rfl | exact TK.kk hT rfl | exact TK.r hT rfl | assumption) (by omega) (by with_reducible rfl) (by omega) (by first | decide | assumption | omega) rfl ?_
          first | refine wp_iinc1 (w := nI 1) (pc' := 88) rfl rfl rfl (by with_reducible exact nI_add _ _) rfl ?_ | refine wp_iinc1 (w := nI 1) (pc' := 88) rfl rfl rfl rfl rfl ?_
          refine wp_goto rfl ?_
          exact WP.cg (ihb (i + 1) (by omega)) (lC1 (lI1 (by rfl) rfl)) rfl (by rw [upr_ne (show (319 : Nat) ≠ 323 by decide), up2_upr, cpyO_up])
      exact WP.cg (lp55 (483 - (0)) (0) (by omega)) (lC1 (lI1 (by rfl) rfl)) rfl (by rw [cpyO_0, upr_id])
    | succ r ih =>
      intro i hi 
      have hlt : i < 5313 := by omega
      refine wp_iload1 (pc' := 12) rfl rfl ?_
      refine wp_sipush (v := nI 5313) (pc' := 15) rfl rfl rfl ?_
      refine wp_icmpgeF (pc' := 18) rfl (nI_lt (by omega) (by omega)) rfl ?_
      refine wp_aload0 (pc' := 19) rfl rfl ?_
      refine wp_getRF (pc' := 22) rfl rfl (by first | exact TK.k1 hT rfl | exact TK.kk hT rfl | exact TK.r hT rfl | assumption) (by first | exact TK.k1 hT rfl | exact TK.kk hT rfl | exact TK.r hT rfl | assumption) rfl ?_
      refine wp_iload1 (pc' := 23) rfl rfl ?_
      refine wp_aload0 (pc' := 24) rfl rfl ?_
      refine wp_getRF (pc' := 27) rfl rfl (by first | exact TK.k1 hT rfl | exact TK.kk hT rfl | exact TK.r hT rfl | assumption) (by first | exact TK.k1 hT rfl | exact TK.kk hT rfl | exact TK.r hT rfl | assumption) rfl ?_
      refine wp_iload1 (pc' := 28) rfl rfl ?_
      refine wp_sipush (v := nI 483) (pc' := 31) rfl rfl rfl ?_
      first | refine wp_iaddN (pc' := 32) rfl (by with_reducible rfl) (by with_reducible rfl) rfl ?_ | refine wp_iadd (pc' := 32) rfl rfl ?_
      refine wp_iald _ (pc' := 33) rfl (by first | exact TK.k1 hT rfl | exact TK.kk hT rfl | exact TK.r hT rfl | assumption) (by with_reducible rfl) (by omega) (by first | decide | assumption | omega) rfl ?_
      refine wp_iast _ (pc' := 34) rfl (by first | exact TK.k1 hT rfl | exact TK.kk hT rfl | exact TK.r hT rfl | assumption) (by omega) (by with_reducible rfl) (by omega) (by first | decide | assumption | omega) rfl ?_
      first | refine wp_iinc1 (w := nI 1) (pc' := 37) rfl rfl rfl (by with_reducible exact nI_add _ _) rfl ?_ | refine wp_iinc1 (w := nI 1) (pc' := 37) rfl rfl rfl rfl rfl ?_
      refine wp_goto rfl ?_
      exact WP.cg (ih (i + 1) (by omega)) (lC1 (lI1 (by rfl) rfl)) rfl (by rw [upr_same, cpy_ge (by omega), up2_upr, cpy_up (f := fun k => I 323 (k + 483))])
  exact WP.cg (lp11 (5313 - (0)) (0) (by omega)) (lC1 (lI1 (by rfl) rfl)) rfl (by rw [cpy_0, upr_id])
theorem m_rem {d : Nat} {K : Nat → Nat × Nat} {I : Nat → Nat → Int32} {L : Nat → Nat → Int64} {R : Nat → Nat → Option Nat} {n s : Nat} {Q : Lo → Lm → Prop} {A : Nat} (hT : TK K R n) (hA : I 318 7 = nI A) (hA12 : A < 12) (kk : Q (.inl none) (K, upr (up2 I 318 7 (nI (A + 1))) 323 (cpyO (483 * A) 483 ((up2 I 318 7 (nI (A + 1))) 319) ((up2 I 318 7 (nI (A + 1))) 323)), L, R, n, s)) : Ok (d + 1) 291 [.ref 318] (K, I, L, R, n, s) Q := by
  obtain ⟨-, -, hn⟩ := id hT
  refine Ok.enter (F := F_291) (ls := [.ref 318, lDead]) rfl rfl ?_
  refine wp_aload0 (pc' := 1) rfl rfl ?_
  refine wp_getI (pc' := 4) rfl rfl (by first | exact TK.k1 hT rfl | exact TK.kk hT rfl | exact TK.r hT rfl | assumption) rfl ?_
  rw [hA]
  refine wp_bipush (v := nI 12) (pc' := 6) rfl rfl rfl ?_
  refine wp_icmpneT rfl (fun q => absurd ((nI_eq (by omega) (by decide)).mp q) (by omega)) ?_
  refine wp_aload0 (pc' := 44) rfl rfl ?_
  refine wp_dup (pc' := 45) rfl rfl rfl ?_
  refine wp_getI (pc' := 48) rfl rfl (by first | exact TK.k1 hT rfl | exact TK.kk hT rfl | exact TK.r hT rfl | assumption) rfl ?_
  rw [hA]
  refine wp_iconst (v := nI 1) (pc' := 49) rfl rfl rfl ?_
  first | refine wp_iaddN (pc' := 50) rfl (by with_reducible rfl) (by with_reducible rfl) rfl ?_ | refine wp_iadd (pc' := 50) rfl rfl ?_
  refine wp_putI (pc' := 53) rfl rfl (by first | exact TK.k1 hT rfl | exact TK.kk hT rfl | exact TK.r hT rfl | assumption) (by omega) rfl ?_
  obtain ⟨M, hM⟩ : ∃ M, M = up2 I 318 7 (nI (A + 1)) := ⟨_, rfl⟩
  have hM7 : M 318 7 = nI (A + 1) := by rw [hM, up2_hit]
  rw [← hM]
  refine wp_iconst (v := nI 0) (pc' := 54) rfl rfl rfl ?_
  refine wp_istore1 (pc' := 55) rfl (by first | rfl | assumption) rfl ?_
  have lp55 : ∀ r (i : Nat), i + r = 483 → WP d F_291 55 [.ref 318, .int (nI i)] [] (K, upr M 323 (cpyO (483 * A) i (M 319) (M 323)), L, R, n, s) Q := by
    intro r; induction r with
    | zero =>
      intro i hi 
      have hi2 : i = 483 := by omega
      subst hi2
      refine wp_iload1 (pc' := 56) rfl rfl ?_
      refine wp_sipush (v := nI 483) (pc' := 59) rfl rfl rfl ?_
      refine wp_icmpgeT rfl (nI_nlt (by omega) (by omega)) ?_
      refine wp_vret rfl rfl ?_
      refine Qu kk ?_
      rw [hM]
    | succ r ih =>
      intro i hi 
      have hlt : i < 483 := by omega
      refine wp_iload1 (pc' := 56) rfl rfl ?_
      refine wp_sipush (v := nI 483) (pc' := 59) rfl rfl rfl ?_
      refine wp_icmpgeF (pc' := 62) rfl (nI_lt (by omega) (by omega)) rfl ?_
      refine wp_aload0 (pc' := 63) rfl rfl ?_
      refine wp_getRF (pc' := 66) rfl rfl (by first | exact TK.k1 hT rfl | exact TK.kk hT rfl | exact TK.r hT rfl | assumption) (by first | exact TK.k1 hT rfl | exact TK.kk hT rfl | exact TK.r hT rfl | assumption) rfl ?_
      refine wp_sipush (v := nI 483) (pc' := 69) rfl rfl rfl ?_
      refine wp_aload0 (pc' := 70) rfl rfl ?_
      refine wp_getI (pc' := 73) rfl rfl (by first | exact TK.k1 hT rfl | exact TK.kk hT rfl | exact TK.r hT rfl | assumption) rfl ?_
      rw [upr_ne (show (318 : Nat) ≠ 323 by decide), hM7]
      refine wp_iconst (v := nI 1) (pc' := 74) rfl rfl rfl ?_
      first | refine wp_isubN (pc' := 75) rfl (by with_reducible rfl) (by with_reducible rfl) (by omega) rfl ?_ | refine wp_isub (pc' := 75) rfl rfl ?_
      first | refine wp_imulN (pc' := 76) rfl (by with_reducible rfl) (by with_reducible rfl) rfl ?_ | refine wp_imul (pc' := 76) rfl rfl ?_
      refine wp_iload1 (pc' := 77) rfl rfl ?_
      first | refine wp_iaddN (pc' := 78) rfl (by with_reducible rfl) (by with_reducible rfl) rfl ?_ | refine wp_iadd (pc' := 78) rfl rfl ?_
      refine wp_aload0 (pc' := 79) rfl rfl ?_
      refine wp_getRF (pc' := 82) rfl rfl (by first | exact TK.k1 hT rfl | exact TK.kk hT rfl | exact TK.r hT rfl | assumption) (by first | exact TK.k1 hT rfl | exact TK.kk hT rfl | exact TK.r hT rfl | assumption) rfl ?_
      refine wp_iload1 (pc' := 83) rfl rfl ?_
      refine wp_iald _ (pc' := 84) rfl (by first | exact TK.k1 hT rfl | exact TK.kk hT rfl | exact TK.r hT rfl | assumption) (by with_reducible rfl) (by omega) (by first | decide | assumption | omega) rfl ?_
      refine wp_iast _ (pc' := 85) rfl (by first | exact TK.k1 hT rfl | exact TK.kk hT rfl | exact TK.r hT rfl | assumption) (by omega) (by with_reducible rfl) (by omega) (by first | decide | assumption | omega) rfl ?_
      first | refine wp_iinc1 (w := nI 1) (pc' := 88) rfl rfl rfl (by with_reducible exact nI_add _ _) rfl ?_ | refine wp_iinc1 (w := nI 1) (pc' := 88) rfl rfl rfl rfl rfl ?_
      refine wp_goto rfl ?_
      exact WP.cg (ih (i + 1) (by omega)) (lC1 (lI1 (by rfl) rfl)) rfl (by rw [upr_ne (show (319 : Nat) ≠ 323 by decide), up2_upr, show A + 1 - 1 = A from rfl, cpyO_up])
  exact WP.cg (lp55 (483 - (0)) (0) (by omega)) (lC1 (lI1 (by rfl) rfl)) rfl (by rw [cpyO_0, upr_id])
theorem m_isTold {d : Nat} {K : Nat → Nat × Nat} {I : Nat → Nat → Int32} {L : Nat → Nat → Int64} {R : Nat → Nat → Option Nat} {n s : Nat} {Q : Lo → Lm → Prop} {xh xc xk xt : Int32} (hT : TK K R n) (kk : Q (.inl none) (K, upr I 319 (tolW (I 319) xh xc xk xt), L, R, n, s)) : Ok (d + 1) 283 [.ref 318, .int xh, .int xc, .int xk, .int xt] (K, I, L, R, n, s) Q := by
  obtain ⟨-, -, hn⟩ := id hT
  refine Ok.enter (F := F_283) (ls := [.ref 318, .int xh, .int xc, .int xk, .int xt, lDead]) rfl rfl ?_
  refine wp_sipush (v := nI 299) (pc' := 3) rfl rfl rfl ?_
  refine wp_istore5 (pc' := 5) rfl (by first | rfl | assumption) rfl ?_
  have lp5 : ∀ r (i : Nat), i + r = 295 → WP d F_283 5 [.ref 318, .int xh, .int xc, .int xk, .int xt, .int (nI (299 - i))] [] (K, upr I 319 (shN i (I 319)), L, R, n, s) Q := by
    intro r; induction r with
    | zero =>
      intro i hi 
      have hi2 : i = 295 := by omega
      subst hi2
      refine wp_iload5 (pc' := 7) rfl rfl ?_
      refine wp_iconst (v := nI 5) (pc' := 8) rfl rfl rfl ?_
      refine wp_icmpltT rfl (by decide) ?_
      refine wp_aload0 (pc' := 42) rfl rfl ?_
      refine wp_getRF (pc' := 45) rfl rfl (by first | exact TK.k1 hT rfl | exact TK.kk hT rfl | exact TK.r hT rfl | assumption) (by first | exact TK.k1 hT rfl | exact TK.kk hT rfl | exact TK.r hT rfl | assumption) rfl ?_
      refine wp_sipush (v := nI 183) (pc' := 48) rfl rfl rfl ?_
      refine wp_aload0 (pc' := 49) rfl rfl ?_
      refine wp_getRF (pc' := 52) rfl rfl (by first | exact TK.k1 hT rfl | exact TK.kk hT rfl | exact TK.r hT rfl | assumption) (by first | exact TK.k1 hT rfl | exact TK.kk hT rfl | exact TK.r hT rfl | assumption) rfl ?_
      refine wp_bipush (v := nI 6) (pc' := 54) rfl rfl rfl ?_
      refine wp_iald _ (pc' := 55) rfl (by first | exact TK.k1 hT rfl | exact TK.kk hT rfl | exact TK.r hT rfl | assumption) (by with_reducible rfl) (by omega) (by first | decide | assumption | omega) rfl ?_
      refine wp_iast _ (pc' := 56) rfl (by first | exact TK.k1 hT rfl | exact TK.kk hT rfl | exact TK.r hT rfl | assumption) (by omega) (by with_reducible rfl) (by omega) (by first | decide | assumption | omega) rfl ?_
      refine wp_aload0 (pc' := 57) rfl rfl ?_
      refine wp_getRF (pc' := 60) rfl rfl (by first | exact TK.k1 hT rfl | exact TK.kk hT rfl | exact TK.r hT rfl | assumption) (by first | exact TK.k1 hT rfl | exact TK.kk hT rfl | exact TK.r hT rfl | assumption) rfl ?_
      refine wp_sipush (v := nI 184) (pc' := 63) rfl rfl rfl ?_
      refine wp_iload1 (pc' := 64) rfl rfl ?_
      refine wp_iast _ (pc' := 65) rfl (by first | exact TK.k1 hT rfl | exact TK.kk hT rfl | exact TK.r hT rfl | assumption) (by omega) (by with_reducible rfl) (by omega) (by first | decide | assumption | omega) rfl ?_
      refine wp_aload0 (pc' := 66) rfl rfl ?_
      refine wp_getRF (pc' := 69) rfl rfl (by first | exact TK.k1 hT rfl | exact TK.kk hT rfl | exact TK.r hT rfl | assumption) (by first | exact TK.k1 hT rfl | exact TK.kk hT rfl | exact TK.r hT rfl | assumption) rfl ?_
      refine wp_sipush (v := nI 185) (pc' := 72) rfl rfl rfl ?_
      refine wp_iload2 (pc' := 73) rfl rfl ?_
      refine wp_iast _ (pc' := 74) rfl (by first | exact TK.k1 hT rfl | exact TK.kk hT rfl | exact TK.r hT rfl | assumption) (by omega) (by with_reducible rfl) (by omega) (by first | decide | assumption | omega) rfl ?_
      refine wp_aload0 (pc' := 75) rfl rfl ?_
      refine wp_getRF (pc' := 78) rfl rfl (by first | exact TK.k1 hT rfl | exact TK.kk hT rfl | exact TK.r hT rfl | assumption) (by first | exact TK.k1 hT rfl | exact TK.kk hT rfl | exact TK.r hT rfl | assumption) rfl ?_
      refine wp_sipush (v := nI 186) (pc' := 81) rfl rfl rfl ?_
      refine wp_iload3 (pc' := 82) rfl rfl ?_
      refine wp_iast _ (pc' := 83) rfl (by first | exact TK.k1 hT rfl | exact TK.kk hT rfl | exact TK.r hT rfl | assumption) (by omega) (by with_reducible rfl) (by omega) (by first | decide | assumption | omega) rfl ?_
      refine wp_aload0 (pc' := 84) rfl rfl ?_
      refine wp_getRF (pc' := 87) rfl rfl (by first | exact TK.k1 hT rfl | exact TK.kk hT rfl | exact TK.r hT rfl | assumption) (by first | exact TK.k1 hT rfl | exact TK.kk hT rfl | exact TK.r hT rfl | assumption) rfl ?_
      refine wp_sipush (v := nI 187) (pc' := 90) rfl rfl rfl ?_
      refine wp_iload4 (pc' := 92) rfl rfl ?_
      refine wp_iast _ (pc' := 93) rfl (by first | exact TK.k1 hT rfl | exact TK.kk hT rfl | exact TK.r hT rfl | assumption) (by omega) (by with_reducible rfl) (by omega) (by first | decide | assumption | omega) rfl ?_
      refine wp_aload0 (pc' := 94) rfl rfl ?_
      refine wp_getRF (pc' := 97) rfl rfl (by first | exact TK.k1 hT rfl | exact TK.kk hT rfl | exact TK.r hT rfl | assumption) (by first | exact TK.k1 hT rfl | exact TK.kk hT rfl | exact TK.r hT rfl | assumption) rfl ?_
      refine wp_bipush (v := nI 7) (pc' := 99) rfl rfl rfl ?_
      refine wp_bipush (v := nI 60) (pc' := 101) rfl rfl rfl ?_
      refine wp_aload0 (pc' := 102) rfl rfl ?_
      refine wp_getRF (pc' := 105) rfl rfl (by first | exact TK.k1 hT rfl | exact TK.kk hT rfl | exact TK.r hT rfl | assumption) (by first | exact TK.k1 hT rfl | exact TK.kk hT rfl | exact TK.r hT rfl | assumption) rfl ?_
      refine wp_bipush (v := nI 7) (pc' := 107) rfl rfl rfl ?_
      refine wp_iald _ (pc' := 108) rfl (by first | exact TK.k1 hT rfl | exact TK.kk hT rfl | exact TK.r hT rfl | assumption) (by with_reducible rfl) (by omega) (by first | decide | assumption | omega) rfl ?_
      refine wp_iconst (v := nI 1) (pc' := 109) rfl rfl rfl ?_
      first | refine wp_iaddN (pc' := 110) rfl (by with_reducible rfl) (by with_reducible rfl) rfl ?_ | refine wp_iadd (pc' := 110) rfl rfl ?_
      refine wp_min (pc' := 113) rfl rfl rfl rfl ?_
      refine wp_iast _ (pc' := 114) rfl (by first | exact TK.k1 hT rfl | exact TK.kk hT rfl | exact TK.r hT rfl | assumption) (by omega) (by with_reducible rfl) (by omega) (by first | decide | assumption | omega) rfl ?_
      refine wp_vret rfl rfl ?_
      refine Qu kk ?_
      simp only [up2_upr, upr_same]
      rw [shN_lo (show 6 + 295 < 483 by decide)]
      rw [show ∀ a b c e f : Int32, up1 (up1 (up1 (up1 (up1 (shN 295 (I 319)) 183 a) 184 b) 185 c) 186 e) 187 f 7 = I 319 7 from fun a b c e f => by rw [up1_ne (by decide), up1_ne (by decide), up1_ne (by decide), up1_ne (by decide), up1_ne (by decide), shN_lo (by decide)]]
      rfl
    | succ r ih =>
      intro i hi 
      have hlt : i < 295 := by omega
      obtain ⟨k, hk⟩ : ∃ k, k = 299 - i := ⟨_, rfl⟩
      have hk1 : 5 ≤ k := by omega
      have hk2 : k ≤ 299 := by omega
      rw [← hk]
      refine wp_iload5 (pc' := 7) rfl rfl ?_
      refine wp_iconst (v := nI 5) (pc' := 8) rfl rfl rfl ?_
      refine wp_icmpltF (pc' := 11) rfl (nI_nlt (by omega) (by omega)) rfl ?_
      refine wp_aload0 (pc' := 12) rfl rfl ?_
      refine wp_getRF (pc' := 15) rfl rfl (by first | exact TK.k1 hT rfl | exact TK.kk hT rfl | exact TK.r hT rfl | assumption) (by first | exact TK.k1 hT rfl | exact TK.kk hT rfl | exact TK.r hT rfl | assumption) rfl ?_
      refine wp_sipush (v := nI 183) (pc' := 18) rfl rfl rfl ?_
      refine wp_iload5 (pc' := 20) rfl rfl ?_
      first | refine wp_iaddN (pc' := 21) rfl (by with_reducible rfl) (by with_reducible rfl) rfl ?_ | refine wp_iadd (pc' := 21) rfl rfl ?_
      refine wp_aload0 (pc' := 22) rfl rfl ?_
      refine wp_getRF (pc' := 25) rfl rfl (by first | exact TK.k1 hT rfl | exact TK.kk hT rfl | exact TK.r hT rfl | assumption) (by first | exact TK.k1 hT rfl | exact TK.kk hT rfl | exact TK.r hT rfl | assumption) rfl ?_
      refine wp_sipush (v := nI 183) (pc' := 28) rfl rfl rfl ?_
      refine wp_iload5 (pc' := 30) rfl rfl ?_
      first | refine wp_iaddN (pc' := 31) rfl (by with_reducible rfl) (by with_reducible rfl) rfl ?_ | refine wp_iadd (pc' := 31) rfl rfl ?_
      refine wp_iconst (v := nI 5) (pc' := 32) rfl rfl rfl ?_
      first | refine wp_isubN (pc' := 33) rfl (by with_reducible rfl) (by with_reducible rfl) (by omega) rfl ?_ | refine wp_isub (pc' := 33) rfl rfl ?_
      refine wp_iald _ (pc' := 34) rfl (by first | exact TK.k1 hT rfl | exact TK.kk hT rfl | exact TK.r hT rfl | assumption) (by with_reducible rfl) (by omega) (by first | decide | assumption | omega) rfl ?_
      refine wp_iast _ (pc' := 35) rfl (by first | exact TK.k1 hT rfl | exact TK.kk hT rfl | exact TK.r hT rfl | assumption) (by omega) (by with_reducible rfl) (by omega) (by first | decide | assumption | omega) rfl ?_
      first | refine wp_iinc5 (w := (-1)) (pc' := 38) rfl rfl rfl (by with_reducible exact nI_sub1 (by omega)) rfl ?_ | refine wp_iinc5 (w := (-1)) (pc' := 38) rfl rfl rfl rfl rfl ?_
      refine wp_goto rfl ?_
      exact WP.cg (ih (i + 1) (by omega)) (lC1 (lI1 (by first | with_reducible rfl | (rw [hk]; rfl) | (rw [show 299 - (i + 1) = k - 1 by omega])) (lI1 (by first | with_reducible rfl | (rw [hk]; rfl) | (rw [show 299 - (i + 1) = k - 1 by omega])) (lI1 (by first | with_reducible rfl | (rw [hk]; rfl) | (rw [show 299 - (i + 1) = k - 1 by omega])) (lI1 (by first | with_reducible rfl | (rw [hk]; rfl) | (rw [show 299 - (i + 1) = k - 1 by omega])) (lI1 (by first | with_reducible rfl | (rw [hk]; rfl) | (rw [show 299 - (i + 1) = k - 1 by omega])) rfl)))))) rfl (by rw [upr_same, shN_lo (by omega), up2_upr, shN_up hk (by omega)])
  exact WP.cg (lp5 (295 - (0)) (0) (by omega)) (lC1 (lI1 (by rfl) (lI1 (by rfl) (lI1 (by rfl) (lI1 (by rfl) (lI1 (by rfl) rfl)))))) rfl (by rw [shN_0, upr_id])
theorem m_isCut {d : Nat} {K : Nat → Nat × Nat} {I : Nat → Nat → Int32} {L : Nat → Nat → Int64} {R : Nat → Nat → Option Nat} {n s : Nat} {Q : Lo → Lm → Prop} {h c : Nat} {xk : Int32} (hT : TK K R n) (hh : h < 6) (hc : c < 25) (hz : ¬ I 319 (9 + 6 * c + 3) + I 319 (159 + 4 * h + 0) = nI 0) (kk : Q (.inl (some (.int (I 319 (9 + 6 * c + 3) + I 319 (159 + 4 * h + 0))))) (K, upr I 319 (cutW (I 319) h c xk), L, R, n, s)) : Ok (d + 3) 282 [.ref 318, .int (nI h), .int (nI c), .int xk] (K, I, L, R, n, s) Q := by
  obtain ⟨-, -, hn⟩ := id hT
  refine Ok.enter (F := F_282) (ls := [.ref 318, .int (nI h), .int (nI c), .int xk, lDead, lDead]) rfl rfl ?_
  refine wp_aload0 (pc' := 1) rfl rfl ?_
  refine wp_iload2 (pc' := 2) rfl rfl ?_
  refine wp_iconst (v := nI 3) (pc' := 3) rfl rfl rfl ?_
  refine wp_callV3 (pc' := 6) rfl rfl rfl rfl rfl (by first | exact TK.k1 hT rfl | exact TK.kk hT rfl | exact TK.r hT rfl | assumption) rfl rfl ?_
  refine m_of hT hc (by decide) ?_
  refine Cont.v ?_
  refine wp_istore4 (pc' := 8) rfl (by first | rfl | assumption) rfl ?_
  refine wp_aload0 (pc' := 9) rfl rfl ?_
  refine wp_iload1 (pc' := 10) rfl rfl ?_
  refine wp_iconst (v := nI 0) (pc' := 11) rfl rfl rfl ?_
  refine wp_callV3 (pc' := 14) rfl rfl rfl rfl rfl (by first | exact TK.k1 hT rfl | exact TK.kk hT rfl | exact TK.r hT rfl | assumption) rfl rfl ?_
  refine m_ofH hT hh (by decide) ?_
  refine Cont.v ?_
  refine wp_istore5 (pc' := 16) rfl (by first | rfl | assumption) rfl ?_
  refine wp_aload0 (pc' := 17) rfl rfl ?_
  refine wp_getRF (pc' := 20) rfl rfl (by first | exact TK.k1 hT rfl | exact TK.kk hT rfl | exact TK.r hT rfl | assumption) (by first | exact TK.k1 hT rfl | exact TK.kk hT rfl | exact TK.r hT rfl | assumption) rfl ?_
  refine wp_iload2 (pc' := 21) rfl rfl ?_
  refine wp_iconst (v := nI 4) (pc' := 22) rfl rfl rfl ?_
  refine wp_callS2 (pc' := 25) rfl rfl rfl rfl rfl rfl ?_
  refine m_at ?_
  refine Cont.v ?_
  refine wp_aload0 (pc' := 26) rfl rfl ?_
  refine wp_iload2 (pc' := 27) rfl rfl ?_
  refine wp_iconst (v := nI 4) (pc' := 28) rfl rfl rfl ?_
  refine wp_callV3 (pc' := 31) rfl rfl rfl rfl rfl (by first | exact TK.k1 hT rfl | exact TK.kk hT rfl | exact TK.r hT rfl | assumption) rfl rfl ?_
  refine m_of hT hc (by decide) ?_
  refine Cont.v ?_
  refine wp_iload4 (pc' := 33) rfl rfl ?_
  first | refine wp_imulN (pc' := 34) rfl (by with_reducible rfl) (by with_reducible rfl) rfl ?_ | refine wp_imul (pc' := 34) rfl rfl ?_
  refine wp_iload4 (pc' := 36) rfl rfl ?_
  refine wp_iload5 (pc' := 38) rfl rfl ?_
  first | refine wp_iaddN (pc' := 39) rfl (by with_reducible rfl) (by with_reducible rfl) rfl ?_ | refine wp_iadd (pc' := 39) rfl rfl ?_
  first | refine wp_idivN (pc' := 40) rfl (by with_reducible rfl) (by with_reducible rfl) (by omega) (by omega) (by omega) rfl ?_ | refine wp_idiv (pc' := 40) rfl hz rfl ?_
  refine wp_iast _ (pc' := 41) rfl (by first | exact TK.k1 hT rfl | exact TK.kk hT rfl | exact TK.r hT rfl | assumption) (by omega) (by with_reducible rfl) (by omega) (by first | decide | assumption | omega) rfl ?_
  refine wp_aload0 (pc' := 42) rfl rfl ?_
  refine wp_getRF (pc' := 45) rfl rfl (by first | exact TK.k1 hT rfl | exact TK.kk hT rfl | exact TK.r hT rfl | assumption) (by first | exact TK.k1 hT rfl | exact TK.kk hT rfl | exact TK.r hT rfl | assumption) rfl ?_
  refine wp_iload2 (pc' := 46) rfl rfl ?_
  refine wp_iconst (v := nI 5) (pc' := 47) rfl rfl rfl ?_
  refine wp_callS2 (pc' := 50) rfl rfl rfl rfl rfl rfl ?_
  refine m_at ?_
  refine Cont.v ?_
  refine wp_iconst (v := nI 0) (pc' := 51) rfl rfl rfl ?_
  refine wp_iast _ (pc' := 52) rfl (by first | exact TK.k1 hT rfl | exact TK.kk hT rfl | exact TK.r hT rfl | assumption) (by omega) (by with_reducible rfl) (by omega) (by first | decide | assumption | omega) rfl ?_
  refine wp_aload0 (pc' := 53) rfl rfl ?_
  refine wp_getRF (pc' := 56) rfl rfl (by first | exact TK.k1 hT rfl | exact TK.kk hT rfl | exact TK.r hT rfl | assumption) (by first | exact TK.k1 hT rfl | exact TK.kk hT rfl | exact TK.r hT rfl | assumption) rfl ?_
  refine wp_iload2 (pc' := 57) rfl rfl ?_
  refine wp_iconst (v := nI 3) (pc' := 58) rfl rfl rfl ?_
  refine wp_callS2 (pc' := 61) rfl rfl rfl rfl rfl rfl ?_
  refine m_at ?_
  refine Cont.v ?_
  refine wp_iload4 (pc' := 63) rfl rfl ?_
  refine wp_iload5 (pc' := 65) rfl rfl ?_
  first | refine wp_iaddN (pc' := 66) rfl (by with_reducible rfl) (by with_reducible rfl) rfl ?_ | refine wp_iadd (pc' := 66) rfl rfl ?_
  refine wp_iast _ (pc' := 67) rfl (by first | exact TK.k1 hT rfl | exact TK.kk hT rfl | exact TK.r hT rfl | assumption) (by omega) (by with_reducible rfl) (by omega) (by first | decide | assumption | omega) rfl ?_
  refine wp_aload0 (pc' := 68) rfl rfl ?_
  refine wp_getRF (pc' := 71) rfl rfl (by first | exact TK.k1 hT rfl | exact TK.kk hT rfl | exact TK.r hT rfl | assumption) (by first | exact TK.k1 hT rfl | exact TK.kk hT rfl | exact TK.r hT rfl | assumption) rfl ?_
  refine wp_iload2 (pc' := 72) rfl rfl ?_
  refine wp_iconst (v := nI 0) (pc' := 73) rfl rfl rfl ?_
  refine wp_callS2 (pc' := 76) rfl rfl rfl rfl rfl rfl ?_
  refine m_at ?_
  refine Cont.v ?_
  refine wp_dup2 (pc' := 77) rfl rfl rfl rfl ?_
  refine wp_iald _ (pc' := 78) rfl (by first | exact TK.k1 hT rfl | exact TK.kk hT rfl | exact TK.r hT rfl | assumption) (by with_reducible rfl) (by omega) (by first | decide | assumption | omega) rfl ?_
  refine wp_iconst (v := nI 1) (pc' := 79) rfl rfl rfl ?_
  first | refine wp_isubN (pc' := 80) rfl (by with_reducible rfl) (by with_reducible rfl) (by omega) rfl ?_ | refine wp_isub (pc' := 80) rfl rfl ?_
  refine wp_iast _ (pc' := 81) rfl (by first | exact TK.k1 hT rfl | exact TK.kk hT rfl | exact TK.r hT rfl | assumption) (by omega) (by with_reducible rfl) (by omega) (by first | decide | assumption | omega) rfl ?_
  refine wp_aload0 (pc' := 82) rfl rfl ?_
  refine wp_iload1 (pc' := 83) rfl rfl ?_
  refine wp_iload2 (pc' := 84) rfl rfl ?_
  refine wp_iload3 (pc' := 85) rfl rfl ?_
  refine wp_iload5 (pc' := 87) rfl rfl ?_
  refine wp_callV5 (pc' := 90) rfl rfl rfl rfl rfl (by first | exact TK.k1 hT rfl | exact TK.kk hT rfl | exact TK.r hT rfl | assumption) rfl rfl ?_
  refine m_isTold hT ?_
  refine Cont.u ?_
  refine wp_aload0 (pc' := 91) rfl rfl ?_
  refine wp_iload2 (pc' := 92) rfl rfl ?_
  refine wp_iconst (v := nI 3) (pc' := 93) rfl rfl rfl ?_
  refine wp_callV3 (pc' := 96) rfl rfl rfl rfl rfl (by first | exact TK.k1 hT rfl | exact TK.kk hT rfl | exact TK.r hT rfl | assumption) rfl rfl ?_
  refine m_of hT hc (by decide) ?_
  refine Cont.v ?_
  refine wp_iret rfl rfl rfl ?_
  refine Qv kk ?_ ?_
  · rw [upr_same, tolW_lo (by omega) (by omega)]
    simp only [up2_as, upr_upr, upr_same]
    rw [up1_ne (by omega), up1_hit]
  · simp only [up2_as, upr_upr, upr_same]
    rw [up1_ne (show 9 + 6 * c + 0 ≠ 9 + 6 * c + 3 by omega), up1_ne (show 9 + 6 * c + 0 ≠ 9 + 6 * c + 5 by omega), up1_ne (show 9 + 6 * c + 0 ≠ 9 + 6 * c + 4 by omega)]
    rfl
theorem m_allSoak {d : Nat} {K : Nat → Nat × Nat} {I : Nat → Nat → Int32} {L : Nat → Nat → Int64} {R : Nat → Nat → Option Nat} {n s : Nat} {Q : Lo → Lm → Prop}  (hT : TK K R n) (kk : Q (.inl none) (K, upr I 319 (soaW (I 319) 25), L, R, n, s)) : Ok (d + 5) 278 [.ref 318] (K, I, L, R, n, s) Q := by
  obtain ⟨-, -, hn⟩ := id hT
  refine Ok.enter (F := F_278) (ls := [.ref 318, lDead, lDead, lDead, lDead]) rfl rfl ?_
  refine wp_aload0 (pc' := 1) rfl rfl ?_
  refine wp_callV1 (pc' := 4) rfl rfl rfl rfl rfl (by first | exact TK.k1 hT rfl | exact TK.kk hT rfl | exact TK.r hT rfl | assumption) rfl rfl ?_
  refine m_allDrained hT ?_
  refine Cont.v ?_
  refine wp_istore1 (pc' := 5) rfl (by first | rfl | assumption) rfl ?_
  refine wp_iload1 (pc' := 6) rfl rfl ?_
  refine wp_pool (v := .int (nI 33554431)) (pc' := 9) rfl rfl rfl rfl rfl ?_
  refine wp_callS2 (pc' := 12) rfl rfl rfl rfl rfl rfl ?_
  refine m_wider ?_
  refine Cont.v ?_
  refine wp_istore2 (pc' := 13) rfl (by first | rfl | assumption) rfl ?_
  refine wp_iconst (v := nI 0) (pc' := 14) rfl rfl rfl ?_
  refine wp_istore3 (pc' := 15) rfl (by first | rfl | assumption) rfl ?_
  have lp15 : ∀ r (i : Nat) (v4 : Value), i + r = 25 → isL v4 = false → WP (d + 4) F_278 15 [.ref 318, .int (alW (I 319)), .int (widC (alW (I 319)) (nI 33554431)), .int (nI i), v4] [] (K, upr I 319 (soaW (I 319) i), L, R, n, s) Q := by
    intro r; induction r with
    | zero =>
      intro i v4 hi hv0
      have hi2 : i = 25 := by omega
      subst hi2
      refine wp_iload3 (pc' := 16) rfl rfl ?_
      refine wp_bipush (v := nI 25) (pc' := 18) rfl rfl rfl ?_
      refine wp_icmpgeT rfl (nI_nlt (by omega) (by omega)) ?_
      refine wp_vret rfl rfl ?_
      exact kk
    | succ r ih =>
      intro i v4 hi hv0
      have hlt : i < 25 := by omega
      refine wp_iload3 (pc' := 16) rfl rfl ?_
      refine wp_bipush (v := nI 25) (pc' := 18) rfl rfl rfl ?_
      refine wp_icmpgeF (pc' := 21) rfl (nI_lt (by omega) (by omega)) rfl ?_
      refine wp_aload0 (pc' := 22) rfl rfl ?_
      refine wp_iload3 (pc' := 23) rfl rfl ?_
      refine wp_iconst (v := nI 1) (pc' := 24) rfl rfl rfl ?_
      refine wp_callV3 (pc' := 27) rfl rfl rfl rfl rfl (by first | exact TK.k1 hT rfl | exact TK.kk hT rfl | exact TK.r hT rfl | assumption) rfl rfl ?_
      refine m_of hT (by omega) (by decide) ?_
      refine Cont.v ?_
      refine wp_aload0 (pc' := 28) rfl rfl ?_
      refine wp_getRF (pc' := 31) rfl rfl (by first | exact TK.k1 hT rfl | exact TK.kk hT rfl | exact TK.r hT rfl | assumption) (by first | exact TK.k1 hT rfl | exact TK.kk hT rfl | exact TK.r hT rfl | assumption) rfl ?_
      refine wp_iconst (v := nI 5) (pc' := 32) rfl rfl rfl ?_
      refine wp_iald _ (pc' := 33) rfl (by first | exact TK.k1 hT rfl | exact TK.kk hT rfl | exact TK.r hT rfl | assumption) (by with_reducible rfl) (by omega) (by first | decide | assumption | omega) rfl ?_
      first | refine wp_iaddN (pc' := 34) rfl (by with_reducible rfl) (by with_reducible rfl) rfl ?_ | refine wp_iadd (pc' := 34) rfl rfl ?_
      refine wp_iload2 (pc' := 35) rfl rfl ?_
      refine wp_iload3 (pc' := 36) rfl rfl ?_
      refine wp_ishr (pc' := 37) rfl rfl ?_
      refine wp_iconst (v := nI 1) (pc' := 38) rfl rfl rfl ?_
      refine wp_iand (pc' := 39) rfl rfl ?_
      first | refine wp_isubN (pc' := 40) rfl (by with_reducible rfl) (by with_reducible rfl) (by omega) rfl ?_ | refine wp_isub (pc' := 40) rfl rfl ?_
      refine wp_iload1 (pc' := 41) rfl rfl ?_
      refine wp_iload3 (pc' := 42) rfl rfl ?_
      refine wp_ishr (pc' := 43) rfl rfl ?_
      refine wp_iconst (v := nI 1) (pc' := 44) rfl rfl rfl ?_
      refine wp_iand (pc' := 45) rfl rfl ?_
      first | refine wp_isubN (pc' := 46) rfl (by with_reducible rfl) (by with_reducible rfl) (by omega) rfl ?_ | refine wp_isub (pc' := 46) rfl rfl ?_
      refine wp_istore4 (pc' := 48) rfl (by first | rfl | assumption) rfl ?_
      refine wp_aload0 (pc' := 49) rfl rfl ?_
      refine wp_getRF (pc' := 52) rfl rfl (by first | exact TK.k1 hT rfl | exact TK.kk hT rfl | exact TK.r hT rfl | assumption) (by first | exact TK.k1 hT rfl | exact TK.kk hT rfl | exact TK.r hT rfl | assumption) rfl ?_
      refine wp_iload3 (pc' := 53) rfl rfl ?_
      refine wp_iconst (v := nI 1) (pc' := 54) rfl rfl rfl ?_
      refine wp_callS2 (pc' := 57) rfl rfl rfl rfl rfl rfl ?_
      refine m_at ?_
      refine Cont.v ?_
      refine wp_iconst (v := nI 0) (pc' := 58) rfl rfl rfl ?_
      refine wp_bipush (v := nI 9) (pc' := 60) rfl rfl rfl ?_
      refine wp_iload4 (pc' := 62) rfl rfl ?_
      refine wp_min (pc' := 65) rfl rfl rfl rfl ?_
      refine wp_max (pc' := 68) rfl rfl rfl rfl ?_
      refine wp_iast _ (pc' := 69) rfl (by first | exact TK.k1 hT rfl | exact TK.kk hT rfl | exact TK.r hT rfl | assumption) (by omega) (by with_reducible rfl) (by omega) (by first | decide | assumption | omega) rfl ?_
      first | refine wp_iinc3 (w := nI 1) (pc' := 72) rfl rfl rfl (by with_reducible exact nI_add _ _) rfl ?_ | refine wp_iinc3 (w := nI 1) (pc' := 72) rfl rfl rfl rfl rfl ?_
      refine wp_goto rfl ?_
      exact WP.cg (ih (i + 1) _ (by omega) (by first | rfl | assumption)) (lC1 (lI1 (by rfl) (lI1 (by rfl) (lI1 (by rfl) (lC1 rfl))))) rfl (by rw [upr_same, up2_upr]; rfl)
  exact WP.cg (lp15 (25 - (0)) (0) _ (by omega) (by first | rfl | assumption)) (lC1 (lI1 (by rfl) (lI1 (by rfl) (lI1 (by rfl) (lC1 rfl))))) rfl (by (show (K, I, L, R, n, s) = (K, upr I 319 (I 319), L, R, n, s); rw [upr_id]))
