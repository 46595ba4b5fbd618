/-! THE REFERENCE: a day -/
/-- all but the world and what is only worked with stays -/
def KpS (I J : Mem) : Prop := ∀ a, (a < 319 ∨ (320 ≤ a ∧ a < 325) ∨ 337 ≤ a) → J a = I a
theorem KpS.rfl' {I : Mem} : KpS I I := fun _ _ => rfl
theorem KpS.tr {I J N : Mem} (h : KpS I J) (h2 : KpS J N) : KpS I N := fun a ha => (h2 a ha).trans (h a ha)
theorem KpS.upr {I J : Mem} {b : Nat} {g : Nat → Int32} (h : KpS I J) (hb : b = 319 ∨ (325 ≤ b ∧ b < 337)) : KpS I (upr J b g) := fun a ha => by rw [upr_ne (by omega)]; exact h a ha
theorem up2_upr_ne {f : Mem} {a b j : Nat} {g : Nat → Int32} {v : Int32} (h : b ≠ a) : up2 (upr f a g) b j v = upr (up2 f b j v) a g := by
  funext i
  by_cases hi : i = a
  · subst hi; rw [up2_ne (Ne.symm h), upr_same, upr_same]
  · rw [upr_ne hi]
    by_cases hj : i = b
    · subst hj; funext k; rw [up2_same, up2_same, upr_ne h]
    · rw [up2_ne hj, up2_ne hj, upr_ne hi]
theorem rdep_ag {w w2 : Nat → Int32} (h : ∀ j, 483 ≤ j → w2 j = w j) {bg : Nat} : ∀ k, rdep w2 bg k = rdep w bg k
  | 0 => rfl
  | k + 1 => by unfold rdep; rw [h _ (by omega), rdep_ag h k]
theorem LnOk_ag {w w2 : Nat → Int32} (h : ∀ j, 483 ≤ j → w2 j = w j) {bg k : Nat} (h1 : LnOk w bg k) : LnOk w2 bg k := fun j hj => by
  rw [h _ (by omega), rdep_ag h]; exact h1 j hj
theorem RO_ag {w w2 : Nat → Int32} {o : RwT} (h2 : w2 2 = w 2) (h : ∀ j, 483 ≤ j → w2 j = w j) (hr : RO w o) : RO w2 o := by
  match o, hr with
  | none, hr => show ¬ w2 2 = nI 1; rw [h2]; exact hr
  | some (m, b0, b1), hr =>
    refine ⟨by rw [h2]; exact hr.1, by rw [h _ (by omega)]; exact hr.2.1, hr.2.2.1, fun l hl => ?_⟩
    have q := hr.2.2.2 l hl
    exact ⟨by rw [h _ (by omega)]; exact q.1, by rw [h _ (by omega)]; exact q.2.1, q.2.2.1, q.2.2.2.1, LnOk_ag h q.2.2.2.2⟩
def dryT (w : Nat → Int32) (o : RwT) (c : Nat) (u : Nat → Int32) : Nat → Int32 := if nI 0 < u (9 + 6 * c + 3) then up1 u (9 + 6 * c + 4) (jmax (nI 0) (jmin (nI 99) (u (9 + 6 * c + 4) + rgain w c o))) else u
def dryW (w : Nat → Int32) (o : RwT) (i : Nat) : Nat → Int32 := forN (fun c u => dryT w o c u) w i
theorem soaW_ne {w : Nat → Int32} {j : Nat} (h : ∀ c, j ≠ 9 + 6 * c + 1) : ∀ i, soaW w i j = w j
  | 0 => rfl
  | i + 1 => (up1_ne (h i)).trans (soaW_ne h i)
theorem dryW_ne {w : Nat → Int32} {o : RwT} {j : Nat} (h : ∀ c, j ≠ 9 + 6 * c + 4) : ∀ i, dryW w o i j = w j
  | 0 => rfl
  | i + 1 => by
    show dryT w o i (dryW w o i) j = w j
    unfold dryT
    split
    · exact (up1_ne (h i)).trans (dryW_ne h i)
    · exact dryW_ne h i
theorem soaW_neN {w : Nat → Int32} {j : Nat} (h : ∀ c, c < 25 → j ≠ 9 + 6 * c + 1) : ∀ i, i ≤ 25 → soaW w i j = w j
  | 0 => fun _ => rfl
  | i + 1 => fun hi => (up1_ne (h i (by omega))).trans (soaW_neN h i (by omega))
theorem dryW_neN {w : Nat → Int32} {o : RwT} {j : Nat} (h : ∀ c, c < 25 → j ≠ 9 + 6 * c + 4) : ∀ i, i ≤ 25 → dryW w o i j = w j
  | 0 => fun _ => rfl
  | i + 1 => fun hi => by
    show dryT w o i (dryW w o i) j = w j
    unfold dryT
    split
    · exact (up1_ne (h i (by omega))).trans (dryW_neN h i (by omega))
    · exact dryW_neN h i (by omega)
theorem soaW_neC {w : Nat → Int32} {j : Nat} (h : ∀ c, c < 25 → j ≠ 9 + 6 * c + 1) : soaW w 25 j = w j := soaW_neN h 25 (Nat.le_refl _)
theorem dryW_neC {w : Nat → Int32} {o : RwT} {j : Nat} (h : ∀ c, c < 25 → j ≠ 9 + 6 * c + 4) : dryW w o 25 j = w j := dryW_neN h 25 (Nat.le_refl _)
theorem tolW_hi {w : Nat → Int32} {h c k t : Int32} {j : Nat} (h1 : 483 ≤ j) : tolW w h c k t j = w j := by
  unfold tolW
  rw [up1_ne (by omega), up1_ne (by omega), up1_ne (by omega), up1_ne (by omega), up1_ne (by omega), up1_ne (by omega)]
  unfold shN
  rw [if_neg (by omega)]
/-- hands and what lies, within their bounds -/
def WOk (w : Nat → Int32) (H : Nat) : Prop := (∀ h, h < H → ∃ a, 1 ≤ a ∧ a ≤ 9 ∧ w (159 + 4 * h + 0) = nI a) ∧ (∀ c, c < 25 → ∃ a, a ≤ 99 ∧ w (9 + 6 * c + 3) = nI a)
theorem WOk_ag {w w2 : Nat → Int32} {H : Nat} (hH : H ≤ 6) (h : ∀ j, j < 183 → (159 ≤ j ∨ ∃ c, c < 25 ∧ j = 9 + 6 * c + 3) → w2 j = w j) (hw : WOk w H) : WOk w2 H :=
  ⟨fun k hk => by rw [h _ (by omega) (Or.inl (by omega))]; exact hw.1 k hk, fun c hc => by rw [h _ (by omega) (Or.inr ⟨c, hc, rfl⟩)]; exact hw.2 c hc⟩
theorem nI_lt_inv {a b : Nat} (ha : a < 2 ^ 31) (hb : b < 2 ^ 31) (h : nI a < nI b) : a < b := by
  rcases Nat.lt_or_ge a b with q | q
  · exact q
  · exact absurd h (nI_nlt q (by omega))
theorem WOk_cut {w : Nat → Int32} {H h c : Nat} {k : Int32} (hH : H ≤ 6) (hh : h < H) (hc : c < 25) (hl : w (9 + 6 * c + 3) < nI 90) (hw : WOk w H) : WOk (cutW w h c k) H := by
  obtain ⟨a, ha1, ha9, ha⟩ := hw.1 h hh
  refine ⟨fun g hg => ?_, fun e he => ?_⟩
  · unfold cutW
    rw [tolW_lo (by omega) (by omega), up1_ne (by omega), up1_ne (by omega), up1_ne (by omega), up1_ne (by omega)]
    exact hw.1 g hg
  · unfold cutW
    rw [tolW_lo (by omega) (by omega), up1_ne (by omega)]
    obtain ⟨b, hb9, hb⟩ := hw.2 c hc
    by_cases q : e = c
    · subst q
      rw [up1_hit, hb, ha, nI_add]
      rw [hb] at hl
      have := nI_lt_inv (by omega) (by omega) hl
      exact ⟨b + a, by omega, rfl⟩
    · rw [up1_ne (by omega), up1_ne (by omega), up1_ne (by omega)]
      exact hw.2 e he
theorem WOk_z {w : Nat → Int32} {H h c : Nat} (hh : h < H) (hc : c < 25) (hw : WOk w H) : ¬ w (9 + 6 * c + 3) + w (159 + 4 * h + 0) = nI 0 := by
  obtain ⟨a, ha1, ha9, ha⟩ := hw.1 h hh
  obtain ⟨b, hb9, hb⟩ := hw.2 c hc
  rw [ha, hb, nI_add]
  intro q
  have := (nI_eq (by omega) (by decide)).mp q
  omega
def dayC (u : Nat → Int32) (h : Nat) : Int32 := if u (159 + 4 * h + 2) < u (159 + 4 * h + 1) then fopS (Sv u) h else -1
def dctS (h : Nat) (p : Int32 × (Nat → Int32)) : Int32 × (Nat → Int32) := if dayC p.2 h = -1 then p else (p.1 + nI 1, cutW p.2 h (tn (dayC p.2 h)) (nI 0))
def dctW (w : Nat → Int32) (i : Nat) : Int32 × (Nat → Int32) := forN (fun h p => dctS h p) (nI 0, w) i
theorem dctW_0 {w : Nat → Int32} : dctW w 0 = (nI 0, w) := rfl
theorem dayC_c {u : Nat → Int32} {h : Nat} (e : ¬ dayC u h = -1) : ∃ c, c < 25 ∧ openQ (Sv u) c ∧ dayC u h = nI c := by
  unfold dayC at e ⊢
  split at e
  · rename_i q
    obtain ⟨c, h1, h2, h3⟩ := fopS_cases e
    exact ⟨c, h1, h2.2, by rw [if_pos q]; exact h3⟩
  · exact absurd rfl e
theorem dct_ok {w : Nat → Int32} {H : Nat} (hH : H ≤ 6) (hw : WOk w H) : ∀ i, i ≤ H → WOk (dctW w i).2 H ∧ (dctW w i).2 0 = w 0 ∧ (dctW w i).2 2 = w 2 ∧ ∀ j, 483 ≤ j → (dctW w i).2 j = w j
  | 0 => fun _ => ⟨hw, rfl, rfl, fun _ _ => rfl⟩
  | i + 1 => fun hi => by
    have ih := dct_ok hH hw i (by omega)
    show WOk (dctS i (dctW w i)).2 H ∧ (dctS i (dctW w i)).2 0 = w 0 ∧ (dctS i (dctW w i)).2 2 = w 2 ∧ ∀ j, 483 ≤ j → (dctS i (dctW w i)).2 j = w j
    unfold dctS
    by_cases q : dayC (dctW w i).2 i = -1
    · rw [if_pos q]; exact ih
    · rw [if_neg q]
      obtain ⟨c, h1, h2, h3⟩ := dayC_c q
      rw [h3, tn_nI (by omega)]
      have h4 : (dctW w i).2 (9 + 6 * c + 3) < nI 90 := by rw [← Sv_3 (w := (dctW w i).2) h1]; exact h2.2.2
      refine ⟨WOk_cut hH (by omega) h1 h4 ih.1, ?_, ?_, fun j hj => ?_⟩
      · show cutW (dctW w i).2 i c (nI 0) 0 = _
        unfold cutW
        rw [tolW_lo (by omega) (by omega), up1_ne (by omega), up1_ne (by omega), up1_ne (by omega), up1_ne (by omega)]; exact ih.2.1
      · show cutW (dctW w i).2 i c (nI 0) 2 = _
        unfold cutW
        rw [tolW_lo (by omega) (by omega), up1_ne (by omega), up1_ne (by omega), up1_ne (by omega), up1_ne (by omega)]; exact ih.2.2.1
      · show cutW (dctW w i).2 i c (nI 0) j = _
        unfold cutW
        rw [tolW_hi hj, up1_ne (by omega), up1_ne (by omega), up1_ne (by omega), up1_ne (by omega)]; exact ih.2.2.2 j hj
def dayW (w : Nat → Int32) (o : RwT) (H : Nat) : Int32 × (Nat → Int32) := ((dctW (dryW (soaW w 25) o 25) H).1, up1 (dctW (dryW (soaW w 25) o 25) H).2 6 (jmin (nI 9999) ((dctW (dryW (soaW w 25) o 25) H).2 6 + nI 1)))
def skyX (w : Nat → Int32) (x : Int32) : Nat → Int32 := up1 (up1 (up1 (up1 w 8 (seedN (w 8))) 3 (jrem (drvV (seedN (w 8))) (nI 10))) 8 (seedN (seedN (w 8)))) 5 x
def skyW (w : Nat → Int32) : Nat → Int32 := up1 (up1 (up1 (up1 w 8 (seedN (w 8))) 3 (jrem (drvV (seedN (w 8))) (nI 10))) 8 (seedN (seedN (w 8)))) 5 (if jrem (drvV (seedN (seedN (w 8)))) (nI 100) < w 4 then nI 1 else nI 0)
/-- what days need of the world, and keep -/
def DWk (w : Nat → Int32) (o : RwT) (H : Nat) : Prop := RO w o ∧ w 0 = nI H ∧ H ≤ 6 ∧ WOk w H
theorem DWk_sd {w : Nat → Int32} {o : RwT} {H : Nat} (h : DWk w o H) : DWk (dryW (soaW w 25) o 25) o H :=
  ⟨RO_ag ((dryW_ne (by omega) 25).trans (soaW_ne (by omega) 25)) (fun j hj => (dryW_neC (by omega)).trans (soaW_neC (by omega))) h.1, ((dryW_ne (by omega) 25).trans (soaW_ne (by omega) 25)).trans h.2.1, h.2.2.1,
   WOk_ag h.2.2.1 (fun j hj hq => by
    have h1 : ∀ c, c < 25 → j ≠ 9 + 6 * c + 1 := fun c hc e => by rcases hq with hq | ⟨c2, hc2, hq⟩ <;> omega
    have h2 : ∀ c, c < 25 → j ≠ 9 + 6 * c + 4 := fun c hc e => by rcases hq with hq | ⟨c2, hc2, hq⟩ <;> omega
    exact (dryW_neC h2).trans (soaW_neC h1)) h.2.2.2⟩
theorem DWk_day {w : Nat → Int32} {o : RwT} {H : Nat} (h : DWk w o H) : DWk (dayW w o H).2 o H := by
  have q := DWk_sd h
  have d := dct_ok q.2.2.1 q.2.2.2 H (Nat.le_refl _)
  have e : ∀ j, j ≠ 6 → (dayW w o H).2 j = (dctW (dryW (soaW w 25) o 25) H).2 j := fun j hj => up1_ne hj
  exact ⟨RO_ag (w := dryW (soaW w 25) o 25) ((e 2 (by decide)).trans d.2.2.1) (fun j hj => (e j (by omega)).trans (d.2.2.2 j hj)) q.1, ((e 0 (by decide)).trans d.2.1).trans q.2.1, q.2.2.1, WOk_ag q.2.2.1 (fun j hj hq => e j (fun f => by rcases hq with hq | ⟨c2, hc2, hq⟩ <;> omega)) d.1⟩
theorem DWk_sky {w : Nat → Int32} {o : RwT} {H : Nat} (h : DWk w o H) : DWk (skyW w) o H := by
  have e : ∀ j, j ≠ 8 → j ≠ 3 → j ≠ 5 → skyW w j = w j := fun j a b c => by unfold skyW; rw [up1_ne c, up1_ne a, up1_ne b, up1_ne a]
  exact ⟨RO_ag (e 2 (by decide) (by decide) (by decide)) (fun j hj => e j (by omega) (by omega) (by omega)) h.1, (e 0 (by decide) (by decide) (by decide)).trans h.2.1, h.2.2.1, WOk_ag h.2.2.1 (fun j hj hq => e j (fun q => by rcases hq with hq | ⟨c2, hc2, hq⟩ <;> omega) (fun q => by rcases hq with hq | ⟨c2, hc2, hq⟩ <;> omega) (fun q => by rcases hq with hq | ⟨c2, hc2, hq⟩ <;> omega)) h.2.2.2⟩

theorem m_allDry {d : Nat} {K : Nat → Nat × Nat} {I : Nat → Nat → Int32} {L : Nat → Nat → Int64} {R : Nat → Nat → Option Nat} {n s : Nat} {Q : Lo → Lm → Prop} {o : RwT} (hT : TK K R n) (hro : RO (I 319) o) (kk : ∀ J, KpS I J → J 319 = dryW (I 319) o 25 → Q (.inl none) (K, J, L, R, n, s)) : Ok (d + 9) 279 [.ref 318] (K, I, L, R, n, s) Q := by
  obtain ⟨-, -, hn⟩ := id hT
  refine Ok.enter (F := F_279) (ls := [.ref 318, lDead]) rfl rfl ?_
  refine wp_iconst (v := nI 0) (pc' := 1) rfl rfl rfl ?_
  refine wp_istore1 (pc' := 2) rfl (by first | rfl | assumption) rfl ?_
  have lp2 : ∀ r (i : Nat) (g : Nat → Int32), i + r = 25 → WP (d + 8) F_279 2 [.ref 318, .int (nI i)] [] (K, upr (upr I 327 (cpy i (fun c => rgain (I 319) c o) (I 327))) 326 g, L, R, n, s) Q := by
    intro r; induction r with
    | zero =>
      intro i g hi 
      have hi2 : i = 25 := by omega
      subst hi2
      refine wp_iload1 (pc' := 3) rfl rfl ?_
      refine wp_bipush (v := nI 25) (pc' := 5) rfl rfl rfl ?_
      refine wp_icmpgeT rfl (nI_nlt (by omega) (by omega)) ?_
      obtain ⟨M, hM⟩ : ∃ M, M = upr (upr I 327 (cpy 25 (fun c => rgain (I 319) c o) (I 327))) 326 g := ⟨_, rfl⟩
      have hM9 : M 319 = I 319 := by rw [hM, upr_ne (show (319 : Nat) ≠ 326 by decide), upr_ne (show (319 : Nat) ≠ 327 by decide)]
      have hMk : KpS I M := by rw [hM]; exact (KpS.rfl'.upr (by omega)).upr (by omega)
      have hM7 : ∀ c, c < 25 → M 327 c = rgain (I 319) c o := fun c hc => by rw [hM, upr_ne (show (327 : Nat) ≠ 326 by decide), upr_same, cpy_lt hc]
      rw [← hM]
      refine wp_iconst (v := nI 0) (pc' := 26) rfl rfl rfl ?_
      refine wp_istore1 (pc' := 27) rfl (by first | rfl | assumption) rfl ?_
      have lp27 : ∀ rb (i : Nat), i + rb = 25 → WP (d + 8) F_279 27 [.ref 318, .int (nI i)] [] (K, upr M 319 (dryW (I 319) o i), L, R, n, s) Q := by
        intro rb; induction rb with
        | zero =>
          intro i hib 
          have hi2b : i = 25 := by omega
          subst hi2b
          refine wp_iload1 (pc' := 28) rfl rfl ?_
          refine wp_bipush (v := nI 25) (pc' := 30) rfl rfl rfl ?_
          refine wp_icmpgeT rfl (nI_nlt (by omega) (by omega)) ?_
          refine wp_vret rfl rfl ?_
          exact kk _ (hMk.upr (by omega)) upr_same
        | succ rb ihb =>
          intro i hib 
          have hltb : i < 25 := by omega
          have hsx : dryW (I 319) o (i + 1) = dryT (I 319) o i (dryW (I 319) o i) := rfl
          obtain ⟨u, hu⟩ : ∃ u, dryW (I 319) o i = u := ⟨_, rfl⟩
          rw [hu] at hsx ⊢
          have hm7 := hM7 i (by omega)
          refine wp_iload1 (pc' := 28) rfl rfl ?_
          refine wp_bipush (v := nI 25) (pc' := 30) rfl rfl rfl ?_
          refine wp_icmpgeF (pc' := 33) rfl (nI_lt (by omega) (by omega)) rfl ?_
          refine wp_aload0 (pc' := 34) rfl rfl ?_
          refine wp_iload1 (pc' := 35) rfl rfl ?_
          refine wp_iconst (v := nI 3) (pc' := 36) rfl rfl rfl ?_
          refine wp_callV3 (pc' := 39) rfl rfl rfl rfl rfl (by first | exact TK.k1 hT rfl | exact TK.kk hT rfl | exact TK.r hT rfl | assumption) rfl rfl ?_
          refine m_of hT (by omega) (by decide) ?_
          refine Cont.v ?_
          refine wp_ifle (pc' := 42) rfl rfl ?_ ?_
          · intro h39
            first | refine wp_iinc1 (w := nI 1) (pc' := 77) rfl rfl rfl (by with_reducible exact nI_add _ _) rfl ?_ | refine wp_iinc1 (w := nI 1) (pc' := 77) rfl rfl rfl rfl rfl ?_
            refine wp_goto rfl ?_
            exact WP.cg (ihb (i + 1) (by omega)) (lC1 (lI1 (by rfl) rfl)) rfl (by rw [hsx]; first | (simp only [upr_same] at h39; simp only [dryT, h39, ↓reduceIte, up2_upr, upr_same, upr_ne (show (327 : Nat) ≠ 319 by decide), hm7]; done) | skip)
          · intro h39
            refine wp_aload0 (pc' := 43) rfl rfl ?_
            refine wp_getRF (pc' := 46) rfl rfl (by first | exact TK.k1 hT rfl | exact TK.kk hT rfl | exact TK.r hT rfl | assumption) (by first | exact TK.k1 hT rfl | exact TK.kk hT rfl | exact TK.r hT rfl | assumption) rfl ?_
            refine wp_iload1 (pc' := 47) rfl rfl ?_
            refine wp_iconst (v := nI 4) (pc' := 48) rfl rfl rfl ?_
            refine wp_callS2 (pc' := 51) rfl rfl rfl rfl rfl rfl ?_
            refine m_at ?_
            refine Cont.v ?_
            refine wp_iconst (v := nI 0) (pc' := 52) rfl rfl rfl ?_
            refine wp_bipush (v := nI 99) (pc' := 54) rfl rfl rfl ?_
            refine wp_aload0 (pc' := 55) rfl rfl ?_
            refine wp_iload1 (pc' := 56) rfl rfl ?_
            refine wp_iconst (v := nI 4) (pc' := 57) rfl rfl rfl ?_
            refine wp_callV3 (pc' := 60) rfl rfl rfl rfl rfl (by first | exact TK.k1 hT rfl | exact TK.kk hT rfl | exact TK.r hT rfl | assumption) rfl rfl ?_
            refine m_of hT (by omega) (by decide) ?_
            refine Cont.v ?_
            refine wp_aload0 (pc' := 61) rfl rfl ?_
            refine wp_getRF (pc' := 64) rfl rfl (by first | exact TK.k1 hT rfl | exact TK.kk hT rfl | exact TK.r hT rfl | assumption) (by first | exact TK.k1 hT rfl | exact TK.kk hT rfl | exact TK.r hT rfl | assumption) rfl ?_
            refine wp_iload1 (pc' := 65) rfl rfl ?_
            refine wp_iald _ (pc' := 66) rfl (by first | exact TK.k1 hT rfl | exact TK.kk hT rfl | exact TK.r hT rfl | assumption) (by with_reducible rfl) (by omega) (by first | decide | assumption | omega) rfl ?_
            first | refine wp_iaddN (pc' := 67) rfl (by with_reducible rfl) (by with_reducible rfl) rfl ?_ | refine wp_iadd (pc' := 67) rfl rfl ?_
            refine wp_min (pc' := 70) rfl rfl rfl rfl ?_
            refine wp_max (pc' := 73) rfl rfl rfl rfl ?_
            refine wp_iast _ (pc' := 74) rfl (by first | exact TK.k1 hT rfl | exact TK.kk hT rfl | exact TK.r hT rfl | assumption) (by omega) (by with_reducible rfl) (by omega) (by first | decide | assumption | omega) rfl ?_
            first | refine wp_iinc1 (w := nI 1) (pc' := 77) rfl rfl rfl (by with_reducible exact nI_add _ _) rfl ?_ | refine wp_iinc1 (w := nI 1) (pc' := 77) rfl rfl rfl rfl rfl ?_
            refine wp_goto rfl ?_
            exact WP.cg (ihb (i + 1) (by omega)) (lC1 (lI1 (by rfl) rfl)) rfl (by rw [hsx]; first | (simp only [upr_same] at h39; simp only [dryT, h39, ↓reduceIte, up2_upr, upr_same, upr_ne (show (327 : Nat) ≠ 319 by decide), hm7]; done) | skip)
      exact WP.cg (lp27 (25 - (0)) (0) (by omega)) (lC1 (lI1 (by rfl) rfl)) rfl (by (show (K, M, L, R, n, s) = (K, upr M 319 (I 319), L, R, n, s); rw [← hM9, upr_id]))
    | succ r ih =>
      intro i g hi 
      have hlt : i < 25 := by omega
      refine wp_iload1 (pc' := 3) rfl rfl ?_
      refine wp_bipush (v := nI 25) (pc' := 5) rfl rfl rfl ?_
      refine wp_icmpgeF (pc' := 8) rfl (nI_lt (by omega) (by omega)) rfl ?_
      refine wp_aload0 (pc' := 9) rfl rfl ?_
      refine wp_getRF (pc' := 12) rfl rfl (by first | exact TK.k1 hT rfl | exact TK.kk hT rfl | exact TK.r hT rfl | assumption) (by first | exact TK.k1 hT rfl | exact TK.kk hT rfl | exact TK.r hT rfl | assumption) rfl ?_
      refine wp_iload1 (pc' := 13) rfl rfl ?_
      refine wp_aload0 (pc' := 14) rfl rfl ?_
      refine wp_iload1 (pc' := 15) rfl rfl ?_
      refine wp_callV2 (pc' := 18) rfl rfl rfl rfl rfl (by first | exact TK.k1 hT rfl | exact TK.kk hT rfl | exact TK.r hT rfl | assumption) rfl rfl ?_
      refine m_gainOf (o := o) hT (by omega) (by rw [upr_ne (show (319 : Nat) ≠ 326 by decide), upr_ne (show (319 : Nat) ≠ 327 by decide)]; exact hro) (fun g2 => ?_)
      rw [upr_upr, upr_ne (show (319 : Nat) ≠ 326 by decide), upr_ne (show (319 : Nat) ≠ 327 by decide)]
      refine Cont.v ?_
      refine wp_iast _ (pc' := 19) rfl (by first | exact TK.k1 hT rfl | exact TK.kk hT rfl | exact TK.r hT rfl | assumption) (by omega) (by with_reducible rfl) (by omega) (by first | decide | assumption | omega) rfl ?_
      first | refine wp_iinc1 (w := nI 1) (pc' := 22) rfl rfl rfl (by with_reducible exact nI_add _ _) rfl ?_ | refine wp_iinc1 (w := nI 1) (pc' := 22) rfl rfl rfl rfl rfl ?_
      refine wp_goto rfl ?_
      exact WP.cg (ih (i + 1) g2 (by omega)) (lC1 (lI1 (by rfl) rfl)) rfl (by rw [up2_upr_ne (show (327 : Nat) ≠ 326 by decide), up2_upr, cpy_up (f := fun c => rgain (I 319) c o)])
  exact WP.cg (lp2 (25 - (0)) (0) (I 326) (by omega)) (lC1 (lI1 (by rfl) rfl)) rfl (by rw [cpy_0, upr_id, upr_id])
theorem m_oneDay1 {d : Nat} {K : Nat → Nat × Nat} {I : Nat → Nat → Int32} {L : Nat → Nat → Int64} {R : Nat → Nat → Option Nat} {n s : Nat} {Q : Lo → Lm → Prop} {o : RwT} {H : Nat} (hT : TK K R n) (hdw : DWk (I 319) o H) (kk : ∀ J, KpS I J → J 319 = (dayW (I 319) o H).2 → Q (.inl (some (.int ((dayW (I 319) o H).1)))) (K, J, L, R, n, s)) : Ok (d + 10) 276 [.ref 318, .int (nI 1)] (K, I, L, R, n, s) Q := by
  obtain ⟨-, -, hn⟩ := id hT
  have hH6 := hdw.2.2.1
  have hsd := DWk_sd hdw
  have hdk := dct_ok hsd.2.2.1 hsd.2.2.2
  have hd0 : ∀ i, i ≤ H → (dctW (dryW (soaW (I 319) 25) o 25) i).2 0 = nI H := fun i hi => (hdk i hi).2.1.trans hsd.2.1
  refine Ok.enter (F := F_276) (ls := [.ref 318, .int (nI 1), lDead, lDead, lDead]) rfl rfl ?_
  refine wp_iload1 (pc' := 1) rfl rfl ?_
  refine wp_ifneT rfl (by decide) ?_
  have hMk : KpS I I := KpS.rfl'
  refine wp_aload0 (pc' := 43) rfl rfl ?_
  refine wp_callV1 (pc' := 46) rfl rfl rfl rfl rfl (by first | exact TK.k1 hT rfl | exact TK.kk hT rfl | exact TK.r hT rfl | assumption) rfl rfl ?_
  refine m_allSoak hT ?_
  refine Cont.u ?_
  refine wp_aload0 (pc' := 47) rfl rfl ?_
  refine wp_callV1 (pc' := 50) rfl rfl rfl rfl rfl (by first | exact TK.k1 hT rfl | exact TK.kk hT rfl | exact TK.r hT rfl | assumption) rfl rfl ?_
  refine m_allDry (o := o) hT (by rw [upr_same]; exact RO_ag (soaW_neC (by omega)) (fun j hj => soaW_neC (by omega)) (hdw).1) (fun J hJ hJ9 => ?_)
  rw [upr_same] at hJ9
  have hJI : KpS I J := (hMk.upr (by omega)).tr hJ
  refine Cont.u ?_
  refine wp_iconst (v := nI 0) (pc' := 51) rfl rfl rfl ?_
  refine wp_istore2 (pc' := 52) rfl (by first | rfl | assumption) rfl ?_
  refine wp_iconst (v := nI 0) (pc' := 53) rfl rfl rfl ?_
  refine wp_istore3 (pc' := 54) rfl (by first | rfl | assumption) rfl ?_
  have lp54 : ∀ r (i : Nat) (v4 : Value), i + r = H → isL v4 = false → WP (d + 9) F_276 54 [.ref 318, .int (nI 1), .int (dctW (dryW (soaW (I 319) 25) o 25) i).1, .int (nI i), v4] [] (K, upr J 319 (dctW (dryW (soaW (I 319) 25) o 25) i).2, L, R, n, s) Q := by
    intro r; induction r with
    | zero =>
      intro i v4 hi hv0
      have hi2 : i = H := by omega
      subst hi2
      refine wp_iload3 (pc' := 55) rfl rfl ?_
      refine wp_aload0 (pc' := 56) rfl rfl ?_
      refine wp_callV1 (pc' := 59) rfl rfl rfl rfl rfl (by first | exact TK.k1 hT rfl | exact TK.kk hT rfl | exact TK.r hT rfl | assumption) rfl rfl ?_
      refine m_hearths hT (by rw [upr_same]; first | exact hp0 | exact hd0 _ (Nat.le_refl _)) ?_
      refine Cont.v ?_
      refine wp_icmpgeT rfl (nI_nlt (by omega) (by omega)) ?_
      refine wp_aload0 (pc' := 116) rfl rfl ?_
      refine wp_getRF (pc' := 119) rfl rfl (by first | exact TK.k1 hT rfl | exact TK.kk hT rfl | exact TK.r hT rfl | assumption) (by first | exact TK.k1 hT rfl | exact TK.kk hT rfl | exact TK.r hT rfl | assumption) rfl ?_
      refine wp_bipush (v := nI 6) (pc' := 121) rfl rfl rfl ?_
      refine wp_sipush (v := nI 9999) (pc' := 124) rfl rfl rfl ?_
      refine wp_aload0 (pc' := 125) rfl rfl ?_
      refine wp_getRF (pc' := 128) rfl rfl (by first | exact TK.k1 hT rfl | exact TK.kk hT rfl | exact TK.r hT rfl | assumption) (by first | exact TK.k1 hT rfl | exact TK.kk hT rfl | exact TK.r hT rfl | assumption) rfl ?_
      refine wp_bipush (v := nI 6) (pc' := 130) rfl rfl rfl ?_
      refine wp_iald _ (pc' := 131) rfl (by first | exact TK.k1 hT rfl | exact TK.kk hT rfl | exact TK.r hT rfl | assumption) (by with_reducible rfl) (by omega) (by first | decide | assumption | omega) rfl ?_
      refine wp_iconst (v := nI 1) (pc' := 132) rfl rfl rfl ?_
      first | refine wp_iaddN (pc' := 133) rfl (by with_reducible rfl) (by with_reducible rfl) rfl ?_ | refine wp_iadd (pc' := 133) rfl rfl ?_
      refine wp_min (pc' := 136) rfl rfl rfl rfl ?_
      refine wp_iast _ (pc' := 137) rfl (by first | exact TK.k1 hT rfl | exact TK.kk hT rfl | exact TK.r hT rfl | assumption) (by omega) (by with_reducible rfl) (by omega) (by first | decide | assumption | omega) rfl ?_
      refine wp_iload2 (pc' := 138) rfl rfl ?_
      refine wp_iret rfl rfl rfl ?_
      rw [upr_same, up2_upr]
      exact kk _ (hJI.upr (by omega)) upr_same
    | succ r ih =>
      intro i v4 hi hv0
      have hlt : i < H := by omega
      have hsx : (dctW (dryW (soaW (I 319) 25) o 25) (i + 1)) = dctS i (dctW (dryW (soaW (I 319) 25) o 25) i) := rfl
      have hp0 := hd0 i (by omega)
      have hpw := (hdk i (by omega)).1
      obtain ⟨p, hp⟩ : ∃ p, (dctW (dryW (soaW (I 319) 25) o 25) i) = p := ⟨_, rfl⟩
      rw [hp] at hsx hp0 hpw ⊢
      refine wp_iload3 (pc' := 55) rfl rfl ?_
      refine wp_aload0 (pc' := 56) rfl rfl ?_
      refine wp_callV1 (pc' := 59) rfl rfl rfl rfl rfl (by first | exact TK.k1 hT rfl | exact TK.kk hT rfl | exact TK.r hT rfl | assumption) rfl rfl ?_
      refine m_hearths hT (by rw [upr_same]; first | exact hp0 | exact hd0 _ (Nat.le_refl _)) ?_
      refine Cont.v ?_
      refine wp_icmpgeF (pc' := 62) rfl (nI_lt (by omega) (by omega)) rfl ?_
      refine wp_aload0 (pc' := 63) rfl rfl ?_
      refine wp_iload3 (pc' := 64) rfl rfl ?_
      refine wp_iconst (v := nI 2) (pc' := 65) rfl rfl rfl ?_
      refine wp_callV3 (pc' := 68) rfl rfl rfl rfl rfl (by first | exact TK.k1 hT rfl | exact TK.kk hT rfl | exact TK.r hT rfl | assumption) rfl rfl ?_
      refine m_ofH hT (by omega) (by decide) ?_
      rw [upr_same]
      refine Cont.v ?_
      refine wp_aload0 (pc' := 69) rfl rfl ?_
      refine wp_iload3 (pc' := 70) rfl rfl ?_
      refine wp_iconst (v := nI 1) (pc' := 71) rfl rfl rfl ?_
      refine wp_callV3 (pc' := 74) rfl rfl rfl rfl rfl (by first | exact TK.k1 hT rfl | exact TK.kk hT rfl | exact TK.r hT rfl | assumption) rfl rfl ?_
      refine m_ofH hT (by omega) (by decide) ?_
      rw [upr_same]
      refine Cont.v ?_
      refine wp_icmpge (pc' := 77) rfl rfl ?_ ?_
      · intro h74
        refine wp_iconst (v := (-1)) (pc' := 86) rfl rfl rfl ?_
        refine wp_istore4 (pc' := 88) rfl (by first | rfl | assumption) rfl ?_
        refine wp_iload4 (pc' := 90) rfl rfl ?_
        refine wp_iconst (v := (-1)) (pc' := 91) rfl rfl rfl ?_
        refine wp_icmpneF (pc' := 94) rfl rfl rfl ?_
        refine wp_goto rfl ?_
        first | refine wp_iinc3 (w := nI 1) (pc' := 112) rfl rfl rfl (by with_reducible exact nI_add _ _) rfl ?_ | refine wp_iinc3 (w := nI 1) (pc' := 112) rfl rfl rfl rfl rfl ?_
        refine wp_goto rfl ?_
        exact WP.cg (ih (i + 1) _ (by omega) (by first | rfl | assumption)) (lC1 (lI1 (by first | with_reducible rfl | (rw [hsx]; simp +decide only [dctS, dayC, h74, h91, hcf, hcn, ↓reduceIte]; done) | (rw [hsx]; simp +decide only [dctS, dayC, h74, h91, ↓reduceIte]; done) | (rw [hsx]; simp +decide only [dctS, dayC, h74, ↓reduceIte]; done)) (lI1 (by first | with_reducible rfl | (rw [hsx]; simp +decide only [dctS, dayC, h74, h91, hcf, hcn, ↓reduceIte]; done) | (rw [hsx]; simp +decide only [dctS, dayC, h74, h91, ↓reduceIte]; done) | (rw [hsx]; simp +decide only [dctS, dayC, h74, ↓reduceIte]; done)) (lI1 (by first | with_reducible rfl | (rw [hsx]; simp +decide only [dctS, dayC, h74, h91, hcf, hcn, ↓reduceIte]; done) | (rw [hsx]; simp +decide only [dctS, dayC, h74, h91, ↓reduceIte]; done) | (rw [hsx]; simp +decide only [dctS, dayC, h74, ↓reduceIte]; done)) (lC1 rfl))))) rfl (by rw [hsx]; first | (simp +decide only [dctS, dayC, h74, hcf, hcn, ↓reduceIte]; rw [tn_nI (by omega)]; done) | (simp +decide only [dctS, dayC, h74, h91, ↓reduceIte]; done) | (simp +decide only [dctS, dayC, h74, ↓reduceIte]; done))
      · intro h74
        refine wp_aload0 (pc' := 78) rfl rfl ?_
        refine wp_iload3 (pc' := 79) rfl rfl ?_
        refine wp_callV2 (pc' := 82) rfl rfl rfl rfl rfl (by first | exact TK.k1 hT rfl | exact TK.kk hT rfl | exact TK.r hT rfl | assumption) rfl rfl ?_
        refine m_cutsAt hT (by omega) ?_
        rw [upr_same]
        refine Cont.v ?_
        refine wp_goto rfl ?_
        refine wp_istore4 (pc' := 88) rfl (by first | rfl | assumption) rfl ?_
        refine wp_iload4 (pc' := 90) rfl rfl ?_
        refine wp_iconst (v := (-1)) (pc' := 91) rfl rfl rfl ?_
        refine wp_icmpne (pc' := 94) rfl rfl ?_ ?_
        · intro h91
          refine wp_aload0 (pc' := 98) rfl rfl ?_
          refine wp_iload3 (pc' := 99) rfl rfl ?_
          refine wp_iload4 (pc' := 101) rfl rfl ?_
          refine wp_iconst (v := nI 0) (pc' := 102) rfl rfl rfl ?_
          refine wp_callV4 (pc' := 105) rfl rfl rfl rfl rfl (by first | exact TK.k1 hT rfl | exact TK.kk hT rfl | exact TK.r hT rfl | assumption) rfl rfl ?_
          obtain ⟨c, hc25, hco, hcf⟩ := fopS_cases h91
          have hcn : ¬ nI c = -1 := nI_nm1 (by omega)
          rw [hcf]
          refine m_isCut hT (by omega) hc25 (by rw [upr_same]; exact WOk_z (H := H) (by omega) hc25 hpw) ?_
          rw [upr_upr, upr_same]
          refine Cont.v ?_
          refine wp_pop (pc' := 106) rfl rfl rfl ?_
          first | refine wp_iinc2 (w := nI 1) (pc' := 109) rfl rfl rfl (by with_reducible exact nI_add _ _) rfl ?_ | refine wp_iinc2 (w := nI 1) (pc' := 109) rfl rfl rfl rfl rfl ?_
          first | refine wp_iinc3 (w := nI 1) (pc' := 112) rfl rfl rfl (by with_reducible exact nI_add _ _) rfl ?_ | refine wp_iinc3 (w := nI 1) (pc' := 112) rfl rfl rfl rfl rfl ?_
          refine wp_goto rfl ?_
          exact WP.cg (ih (i + 1) _ (by omega) (by first | rfl | assumption)) (lC1 (lI1 (by first | with_reducible rfl | (rw [hsx]; simp +decide only [dctS, dayC, h74, h91, hcf, hcn, ↓reduceIte]; done) | (rw [hsx]; simp +decide only [dctS, dayC, h74, h91, ↓reduceIte]; done) | (rw [hsx]; simp +decide only [dctS, dayC, h74, ↓reduceIte]; done)) (lI1 (by first | with_reducible rfl | (rw [hsx]; simp +decide only [dctS, dayC, h74, h91, hcf, hcn, ↓reduceIte]; done) | (rw [hsx]; simp +decide only [dctS, dayC, h74, h91, ↓reduceIte]; done) | (rw [hsx]; simp +decide only [dctS, dayC, h74, ↓reduceIte]; done)) (lI1 (by first | with_reducible rfl | (rw [hsx]; simp +decide only [dctS, dayC, h74, h91, hcf, hcn, ↓reduceIte]; done) | (rw [hsx]; simp +decide only [dctS, dayC, h74, h91, ↓reduceIte]; done) | (rw [hsx]; simp +decide only [dctS, dayC, h74, ↓reduceIte]; done)) (lC1 rfl))))) rfl (by rw [hsx]; first | (simp +decide only [dctS, dayC, h74, hcf, hcn, ↓reduceIte]; rw [tn_nI (by omega)]; done) | (simp +decide only [dctS, dayC, h74, h91, ↓reduceIte]; done) | (simp +decide only [dctS, dayC, h74, ↓reduceIte]; done))
        · intro h91
          refine wp_goto rfl ?_
          first | refine wp_iinc3 (w := nI 1) (pc' := 112) rfl rfl rfl (by with_reducible exact nI_add _ _) rfl ?_ | refine wp_iinc3 (w := nI 1) (pc' := 112) rfl rfl rfl rfl rfl ?_
          refine wp_goto rfl ?_
          exact WP.cg (ih (i + 1) _ (by omega) (by first | rfl | assumption)) (lC1 (lI1 (by first | with_reducible rfl | (rw [hsx]; simp +decide only [dctS, dayC, h74, h91, hcf, hcn, ↓reduceIte]; done) | (rw [hsx]; simp +decide only [dctS, dayC, h74, h91, ↓reduceIte]; done) | (rw [hsx]; simp +decide only [dctS, dayC, h74, ↓reduceIte]; done)) (lI1 (by first | with_reducible rfl | (rw [hsx]; simp +decide only [dctS, dayC, h74, h91, hcf, hcn, ↓reduceIte]; done) | (rw [hsx]; simp +decide only [dctS, dayC, h74, h91, ↓reduceIte]; done) | (rw [hsx]; simp +decide only [dctS, dayC, h74, ↓reduceIte]; done)) (lI1 (by first | with_reducible rfl | (rw [hsx]; simp +decide only [dctS, dayC, h74, h91, hcf, hcn, ↓reduceIte]; done) | (rw [hsx]; simp +decide only [dctS, dayC, h74, h91, ↓reduceIte]; done) | (rw [hsx]; simp +decide only [dctS, dayC, h74, ↓reduceIte]; done)) (lC1 rfl))))) rfl (by rw [hsx]; first | (simp +decide only [dctS, dayC, h74, hcf, hcn, ↓reduceIte]; rw [tn_nI (by omega)]; done) | (simp +decide only [dctS, dayC, h74, h91, ↓reduceIte]; done) | (simp +decide only [dctS, dayC, h74, ↓reduceIte]; done))
  exact WP.cg (lp54 (H - (0)) (0) _ (by omega) (by first | rfl | assumption)) (lC1 (lI1 (by first | with_reducible rfl | rw [dctW_0]) (lI1 (by first | with_reducible rfl | rw [dctW_0]) (lI1 (by first | with_reducible rfl | rw [dctW_0]) (lC1 rfl))))) rfl (by rw [dctW_0, ← hJ9, upr_id])
theorem m_oneDay0 {d : Nat} {K : Nat → Nat × Nat} {I : Nat → Nat → Int32} {L : Nat → Nat → Int64} {R : Nat → Nat → Option Nat} {n s : Nat} {Q : Lo → Lm → Prop} {o : RwT} {H : Nat} (hT : TK K R n) (hdw : DWk (I 319) o H) (kk : ∀ J, KpS I J → J 319 = (dayW (skyW (I 319)) o H).2 → Q (.inl (some (.int ((dayW (skyW (I 319)) o H).1)))) (K, J, L, R, n, s)) : Ok (d + 10) 276 [.ref 318, .int (nI 0)] (K, I, L, R, n, s) Q := by
  obtain ⟨-, -, hn⟩ := id hT
  have hH6 := hdw.2.2.1
  have hsd := DWk_sd (DWk_sky hdw)
  have hdk := dct_ok hsd.2.2.1 hsd.2.2.2
  have hd0 : ∀ i, i ≤ H → (dctW (dryW (soaW (skyW (I 319)) 25) o 25) i).2 0 = nI H := fun i hi => (hdk i hi).2.1.trans hsd.2.1
  refine Ok.enter (F := F_276) (ls := [.ref 318, .int (nI 0), lDead, lDead, lDead]) rfl rfl ?_
  refine wp_iload1 (pc' := 1) rfl rfl ?_
  refine wp_ifneF (pc' := 4) rfl rfl rfl ?_
  refine wp_aload0 (pc' := 5) rfl rfl ?_
  refine wp_getRF (pc' := 8) rfl rfl (by first | exact TK.k1 hT rfl | exact TK.kk hT rfl | exact TK.r hT rfl | assumption) (by first | exact TK.k1 hT rfl | exact TK.kk hT rfl | exact TK.r hT rfl | assumption) rfl ?_
  refine wp_iconst (v := nI 3) (pc' := 9) rfl rfl rfl ?_
  refine wp_aload0 (pc' := 10) rfl rfl ?_
  refine wp_bipush (v := nI 10) (pc' := 12) rfl rfl rfl ?_
  refine wp_callV2 (pc' := 15) rfl rfl rfl rfl rfl (by first | exact TK.k1 hT rfl | exact TK.kk hT rfl | exact TK.r hT rfl | assumption) rfl rfl ?_
  refine m_drawn hT (by decide) ?_
  refine Cont.v ?_
  refine wp_iast _ (pc' := 16) rfl (by first | exact TK.k1 hT rfl | exact TK.kk hT rfl | exact TK.r hT rfl | assumption) (by omega) (by with_reducible rfl) (by omega) (by first | decide | assumption | omega) rfl ?_
  refine wp_aload0 (pc' := 17) rfl rfl ?_
  refine wp_getRF (pc' := 20) rfl rfl (by first | exact TK.k1 hT rfl | exact TK.kk hT rfl | exact TK.r hT rfl | assumption) (by first | exact TK.k1 hT rfl | exact TK.kk hT rfl | exact TK.r hT rfl | assumption) rfl ?_
  refine wp_iconst (v := nI 5) (pc' := 21) rfl rfl rfl ?_
  refine wp_aload0 (pc' := 22) rfl rfl ?_
  refine wp_bipush (v := nI 100) (pc' := 24) rfl rfl rfl ?_
  refine wp_callV2 (pc' := 27) rfl rfl rfl rfl rfl (by first | exact TK.k1 hT rfl | exact TK.kk hT rfl | exact TK.r hT rfl | assumption) rfl rfl ?_
  refine m_drawn hT (by decide) ?_
  refine Cont.v ?_
  refine wp_aload0 (pc' := 28) rfl rfl ?_
  refine wp_getRF (pc' := 31) rfl rfl (by first | exact TK.k1 hT rfl | exact TK.kk hT rfl | exact TK.r hT rfl | assumption) (by first | exact TK.k1 hT rfl | exact TK.kk hT rfl | exact TK.r hT rfl | assumption) rfl ?_
  refine wp_iconst (v := nI 4) (pc' := 32) rfl rfl rfl ?_
  refine wp_iald _ (pc' := 33) rfl (by first | exact TK.k1 hT rfl | exact TK.kk hT rfl | exact TK.r hT rfl | assumption) (by with_reducible rfl) (by omega) (by first | decide | assumption | omega) rfl ?_
  refine wp_icmpge (pc' := 36) rfl rfl ?_ ?_
  · intro h33
    refine wp_iconst (v := nI 0) (pc' := 41) rfl rfl rfl ?_
    refine wp_iast _ (pc' := 42) rfl (by first | exact TK.k1 hT rfl | exact TK.kk hT rfl | exact TK.r hT rfl | assumption) (by omega) (by with_reducible rfl) (by omega) (by first | decide | assumption | omega) rfl ?_
    simp +decide only [drwM, up2_as, upr_upr, upr_same, up1_hit, up1_ne, ne_eq, not_false_eq_true] at h33 ⊢
    have hmx : ∃ M, M = upr I 319 (skyW (I 319)) := ⟨_, rfl⟩
    obtain ⟨M, hM⟩ := hmx
    have hMw : M 319 = skyW (I 319) := by rw [hM, upr_same]
    have hMk : KpS I M := by rw [hM]; exact KpS.rfl'.upr (by omega)
    first | (change WP _ _ _ _ _ (K, upr I 319 (skyX (I 319) (nI 1)), L, R, n, s) Q; rw [show skyX (I 319) (nI 1) = skyW (I 319) by unfold skyW skyX; rw [if_pos h33], ← hM]) | (change WP _ _ _ _ _ (K, upr I 319 (skyX (I 319) (nI 0)), L, R, n, s) Q; rw [show skyX (I 319) (nI 0) = skyW (I 319) by unfold skyW skyX; rw [if_neg h33], ← hM])
    refine wp_aload0 (pc' := 43) rfl rfl ?_
    refine wp_callV1 (pc' := 46) rfl rfl rfl rfl rfl (by first | exact TK.k1 hT rfl | exact TK.kk hT rfl | exact TK.r hT rfl | assumption) rfl rfl ?_
    refine m_allSoak hT ?_
    rw [hMw]
    refine Cont.u ?_
    refine wp_aload0 (pc' := 47) rfl rfl ?_
    refine wp_callV1 (pc' := 50) rfl rfl rfl rfl rfl (by first | exact TK.k1 hT rfl | exact TK.kk hT rfl | exact TK.r hT rfl | assumption) rfl rfl ?_
    refine m_allDry (o := o) hT (by rw [upr_same]; exact RO_ag (soaW_neC (by omega)) (fun j hj => soaW_neC (by omega)) ((DWk_sky hdw)).1) (fun J hJ hJ9 => ?_)
    rw [upr_same] at hJ9
    have hJI : KpS I J := (hMk.upr (by omega)).tr hJ
    refine Cont.u ?_
    refine wp_iconst (v := nI 0) (pc' := 51) rfl rfl rfl ?_
    refine wp_istore2 (pc' := 52) rfl (by first | rfl | assumption) rfl ?_
    refine wp_iconst (v := nI 0) (pc' := 53) rfl rfl rfl ?_
    refine wp_istore3 (pc' := 54) rfl (by first | rfl | assumption) rfl ?_
    have lp54 : ∀ r (i : Nat) (v4 : Value), i + r = H → isL v4 = false → WP (d + 9) F_276 54 [.ref 318, .int (nI 0), .int (dctW (dryW (soaW (skyW (I 319)) 25) o 25) i).1, .int (nI i), v4] [] (K, upr J 319 (dctW (dryW (soaW (skyW (I 319)) 25) o 25) i).2, L, R, n, s) Q := by
      intro r; induction r with
      | zero =>
        intro i v4 hi hv0
        have hi2 : i = H := by omega
        subst hi2
        refine wp_iload3 (pc' := 55) rfl rfl ?_
        refine wp_aload0 (pc' := 56) rfl rfl ?_
        refine wp_callV1 (pc' := 59) rfl rfl rfl rfl rfl (by first | exact TK.k1 hT rfl | exact TK.kk hT rfl | exact TK.r hT rfl | assumption) rfl rfl ?_
        refine m_hearths hT (by rw [upr_same]; first | exact hp0 | exact hd0 _ (Nat.le_refl _)) ?_
        refine Cont.v ?_
        refine wp_icmpgeT rfl (nI_nlt (by omega) (by omega)) ?_
        refine wp_aload0 (pc' := 116) rfl rfl ?_
        refine wp_getRF (pc' := 119) rfl rfl (by first | exact TK.k1 hT rfl | exact TK.kk hT rfl | exact TK.r hT rfl | assumption) (by first | exact TK.k1 hT rfl | exact TK.kk hT rfl | exact TK.r hT rfl | assumption) rfl ?_
        refine wp_bipush (v := nI 6) (pc' := 121) rfl rfl rfl ?_
        refine wp_sipush (v := nI 9999) (pc' := 124) rfl rfl rfl ?_
        refine wp_aload0 (pc' := 125) rfl rfl ?_
        refine wp_getRF (pc' := 128) rfl rfl (by first | exact TK.k1 hT rfl | exact TK.kk hT rfl | exact TK.r hT rfl | assumption) (by first | exact TK.k1 hT rfl | exact TK.kk hT rfl | exact TK.r hT rfl | assumption) rfl ?_
        refine wp_bipush (v := nI 6) (pc' := 130) rfl rfl rfl ?_
        refine wp_iald _ (pc' := 131) rfl (by first | exact TK.k1 hT rfl | exact TK.kk hT rfl | exact TK.r hT rfl | assumption) (by with_reducible rfl) (by omega) (by first | decide | assumption | omega) rfl ?_
        refine wp_iconst (v := nI 1) (pc' := 132) rfl rfl rfl ?_
        first | refine wp_iaddN (pc' := 133) rfl (by with_reducible rfl) (by with_reducible rfl) rfl ?_ | refine wp_iadd (pc' := 133) rfl rfl ?_
        refine wp_min (pc' := 136) rfl rfl rfl rfl ?_
        refine wp_iast _ (pc' := 137) rfl (by first | exact TK.k1 hT rfl | exact TK.kk hT rfl | exact TK.r hT rfl | assumption) (by omega) (by with_reducible rfl) (by omega) (by first | decide | assumption | omega) rfl ?_
        refine wp_iload2 (pc' := 138) rfl rfl ?_
        refine wp_iret rfl rfl rfl ?_
        rw [upr_same, up2_upr]
        exact kk _ (hJI.upr (by omega)) upr_same
      | succ r ih =>
        intro i v4 hi hv0
        have hlt : i < H := by omega
        have hsx : (dctW (dryW (soaW (skyW (I 319)) 25) o 25) (i + 1)) = dctS i (dctW (dryW (soaW (skyW (I 319)) 25) o 25) i) := rfl
        have hp0 := hd0 i (by omega)
        have hpw := (hdk i (by omega)).1
        obtain ⟨p, hp⟩ : ∃ p, (dctW (dryW (soaW (skyW (I 319)) 25) o 25) i) = p := ⟨_, rfl⟩
        rw [hp] at hsx hp0 hpw ⊢
        refine wp_iload3 (pc' := 55) rfl rfl ?_
        refine wp_aload0 (pc' := 56) rfl rfl ?_
        refine wp_callV1 (pc' := 59) rfl rfl rfl rfl rfl (by first | exact TK.k1 hT rfl | exact TK.kk hT rfl | exact TK.r hT rfl | assumption) rfl rfl ?_
        refine m_hearths hT (by rw [upr_same]; first | exact hp0 | exact hd0 _ (Nat.le_refl _)) ?_
        refine Cont.v ?_
        refine wp_icmpgeF (pc' := 62) rfl (nI_lt (by omega) (by omega)) rfl ?_
        refine wp_aload0 (pc' := 63) rfl rfl ?_
        refine wp_iload3 (pc' := 64) rfl rfl ?_
        refine wp_iconst (v := nI 2) (pc' := 65) rfl rfl rfl ?_
        refine wp_callV3 (pc' := 68) rfl rfl rfl rfl rfl (by first | exact TK.k1 hT rfl | exact TK.kk hT rfl | exact TK.r hT rfl | assumption) rfl rfl ?_
        refine m_ofH hT (by omega) (by decide) ?_
        rw [upr_same]
        refine Cont.v ?_
        refine wp_aload0 (pc' := 69) rfl rfl ?_
        refine wp_iload3 (pc' := 70) rfl rfl ?_
        refine wp_iconst (v := nI 1) (pc' := 71) rfl rfl rfl ?_
        refine wp_callV3 (pc' := 74) rfl rfl rfl rfl rfl (by first | exact TK.k1 hT rfl | exact TK.kk hT rfl | exact TK.r hT rfl | assumption) rfl rfl ?_
        refine m_ofH hT (by omega) (by decide) ?_
        rw [upr_same]
        refine Cont.v ?_
        refine wp_icmpge (pc' := 77) rfl rfl ?_ ?_
        · intro h74
          refine wp_iconst (v := (-1)) (pc' := 86) rfl rfl rfl ?_
          refine wp_istore4 (pc' := 88) rfl (by first | rfl | assumption) rfl ?_
          refine wp_iload4 (pc' := 90) rfl rfl ?_
          refine wp_iconst (v := (-1)) (pc' := 91) rfl rfl rfl ?_
          refine wp_icmpneF (pc' := 94) rfl rfl rfl ?_
          refine wp_goto rfl ?_
          first | refine wp_iinc3 (w := nI 1) (pc' := 112) rfl rfl rfl (by with_reducible exact nI_add _ _) rfl ?_ | refine wp_iinc3 (w := nI 1) (pc' := 112) rfl rfl rfl rfl rfl ?_
          refine wp_goto rfl ?_
          exact WP.cg (ih (i + 1) _ (by omega) (by first | rfl | assumption)) (lC1 (lI1 (by first | with_reducible rfl | (rw [hsx]; simp +decide only [dctS, dayC, h74, h91, hcf, hcn, ↓reduceIte]; done) | (rw [hsx]; simp +decide only [dctS, dayC, h74, h91, ↓reduceIte]; done) | (rw [hsx]; simp +decide only [dctS, dayC, h74, ↓reduceIte]; done)) (lI1 (by first | with_reducible rfl | (rw [hsx]; simp +decide only [dctS, dayC, h74, h91, hcf, hcn, ↓reduceIte]; done) | (rw [hsx]; simp +decide only [dctS, dayC, h74, h91, ↓reduceIte]; done) | (rw [hsx]; simp +decide only [dctS, dayC, h74, ↓reduceIte]; done)) (lI1 (by first | with_reducible rfl | (rw [hsx]; simp +decide only [dctS, dayC, h74, h91, hcf, hcn, ↓reduceIte]; done) | (rw [hsx]; simp +decide only [dctS, dayC, h74, h91, ↓reduceIte]; done) | (rw [hsx]; simp +decide only [dctS, dayC, h74, ↓reduceIte]; done)) (lC1 rfl))))) rfl (by rw [hsx]; first | (simp +decide only [dctS, dayC, h74, hcf, hcn, ↓reduceIte]; rw [tn_nI (by omega)]; done) | (simp +decide only [dctS, dayC, h74, h91, ↓reduceIte]; done) | (simp +decide only [dctS, dayC, h74, ↓reduceIte]; done))
        · intro h74
          refine wp_aload0 (pc' := 78) rfl rfl ?_
          refine wp_iload3 (pc' := 79) rfl rfl ?_
          refine wp_callV2 (pc' := 82) rfl rfl rfl rfl rfl (by first | exact TK.k1 hT rfl | exact TK.kk hT rfl | exact TK.r hT rfl | assumption) rfl rfl ?_
          refine m_cutsAt hT (by omega) ?_
          rw [upr_same]
          refine Cont.v ?_
          refine wp_goto rfl ?_
          refine wp_istore4 (pc' := 88) rfl (by first | rfl | assumption) rfl ?_
          refine wp_iload4 (pc' := 90) rfl rfl ?_
          refine wp_iconst (v := (-1)) (pc' := 91) rfl rfl rfl ?_
          refine wp_icmpne (pc' := 94) rfl rfl ?_ ?_
          · intro h91
            refine wp_aload0 (pc' := 98) rfl rfl ?_
            refine wp_iload3 (pc' := 99) rfl rfl ?_
            refine wp_iload4 (pc' := 101) rfl rfl ?_
            refine wp_iconst (v := nI 0) (pc' := 102) rfl rfl rfl ?_
            refine wp_callV4 (pc' := 105) rfl rfl rfl rfl rfl (by first | exact TK.k1 hT rfl | exact TK.kk hT rfl | exact TK.r hT rfl | assumption) rfl rfl ?_
            obtain ⟨c, hc25, hco, hcf⟩ := fopS_cases h91
            have hcn : ¬ nI c = -1 := nI_nm1 (by omega)
            rw [hcf]
            refine m_isCut hT (by omega) hc25 (by rw [upr_same]; exact WOk_z (H := H) (by omega) hc25 hpw) ?_
            rw [upr_upr, upr_same]
            refine Cont.v ?_
            refine wp_pop (pc' := 106) rfl rfl rfl ?_
            first | refine wp_iinc2 (w := nI 1) (pc' := 109) rfl rfl rfl (by with_reducible exact nI_add _ _) rfl ?_ | refine wp_iinc2 (w := nI 1) (pc' := 109) rfl rfl rfl rfl rfl ?_
            first | refine wp_iinc3 (w := nI 1) (pc' := 112) rfl rfl rfl (by with_reducible exact nI_add _ _) rfl ?_ | refine wp_iinc3 (w := nI 1) (pc' := 112) rfl rfl rfl rfl rfl ?_
            refine wp_goto rfl ?_
            exact WP.cg (ih (i + 1) _ (by omega) (by first | rfl | assumption)) (lC1 (lI1 (by first | with_reducible rfl | (rw [hsx]; simp +decide only [dctS, dayC, h74, h91, hcf, hcn, ↓reduceIte]; done) | (rw [hsx]; simp +decide only [dctS, dayC, h74, h91, ↓reduceIte]; done) | (rw [hsx]; simp +decide only [dctS, dayC, h74, ↓reduceIte]; done)) (lI1 (by first | with_reducible rfl | (rw [hsx]; simp +decide only [dctS, dayC, h74, h91, hcf, hcn, ↓reduceIte]; done) | (rw [hsx]; simp +decide only [dctS, dayC, h74, h91, ↓reduceIte]; done) | (rw [hsx]; simp +decide only [dctS, dayC, h74, ↓reduceIte]; done)) (lI1 (by first | with_reducible rfl | (rw [hsx]; simp +decide only [dctS, dayC, h74, h91, hcf, hcn, ↓reduceIte]; done) | (rw [hsx]; simp +decide only [dctS, dayC, h74, h91, ↓reduceIte]; done) | (rw [hsx]; simp +decide only [dctS, dayC, h74, ↓reduceIte]; done)) (lC1 rfl))))) rfl (by rw [hsx]; first | (simp +decide only [dctS, dayC, h74, hcf, hcn, ↓reduceIte]; rw [tn_nI (by omega)]; done) | (simp +decide only [dctS, dayC, h74, h91, ↓reduceIte]; done) | (simp +decide only [dctS, dayC, h74, ↓reduceIte]; done))
          · intro h91
            refine wp_goto rfl ?_
            first | refine wp_iinc3 (w := nI 1) (pc' := 112) rfl rfl rfl (by with_reducible exact nI_add _ _) rfl ?_ | refine wp_iinc3 (w := nI 1) (pc' := 112) rfl rfl rfl rfl rfl ?_
            refine wp_goto rfl ?_
            exact WP.cg (ih (i + 1) _ (by omega) (by first | rfl | assumption)) (lC1 (lI1 (by first | with_reducible rfl | (rw [hsx]; simp +decide only [dctS, dayC, h74, h91, hcf, hcn, ↓reduceIte]; done) | (rw [hsx]; simp +decide only [dctS, dayC, h74, h91, ↓reduceIte]; done) | (rw [hsx]; simp +decide only [dctS, dayC, h74, ↓reduceIte]; done)) (lI1 (by first | with_reducible rfl | (rw [hsx]; simp +decide only [dctS, dayC, h74, h91, hcf, hcn, ↓reduceIte]; done) | (rw [hsx]; simp +decide only [dctS, dayC, h74, h91, ↓reduceIte]; done) | (rw [hsx]; simp +decide only [dctS, dayC, h74, ↓reduceIte]; done)) (lI1 (by first | with_reducible rfl | (rw [hsx]; simp +decide only [dctS, dayC, h74, h91, hcf, hcn, ↓reduceIte]; done) | (rw [hsx]; simp +decide only [dctS, dayC, h74, h91, ↓reduceIte]; done) | (rw [hsx]; simp +decide only [dctS, dayC, h74, ↓reduceIte]; done)) (lC1 rfl))))) rfl (by rw [hsx]; first | (simp +decide only [dctS, dayC, h74, hcf, hcn, ↓reduceIte]; rw [tn_nI (by omega)]; done) | (simp +decide only [dctS, dayC, h74, h91, ↓reduceIte]; done) | (simp +decide only [dctS, dayC, h74, ↓reduceIte]; done))
    exact WP.cg (lp54 (H - (0)) (0) _ (by omega) (by first | rfl | assumption)) (lC1 (lI1 (by first | with_reducible rfl | rw [dctW_0]) (lI1 (by first | with_reducible rfl | rw [dctW_0]) (lI1 (by first | with_reducible rfl | rw [dctW_0]) (lC1 rfl))))) rfl (by rw [dctW_0, ← hJ9, upr_id])
  · intro h33
    refine wp_iconst (v := nI 1) (pc' := 37) rfl rfl rfl ?_
    refine wp_goto rfl ?_
    refine wp_iast _ (pc' := 42) rfl (by first | exact TK.k1 hT rfl | exact TK.kk hT rfl | exact TK.r hT rfl | assumption) (by omega) (by with_reducible rfl) (by omega) (by first | decide | assumption | omega) rfl ?_
    simp +decide only [drwM, up2_as, upr_upr, upr_same, up1_hit, up1_ne, ne_eq, not_false_eq_true] at h33 ⊢
    have hmx : ∃ M, M = upr I 319 (skyW (I 319)) := ⟨_, rfl⟩
    obtain ⟨M, hM⟩ := hmx
    have hMw : M 319 = skyW (I 319) := by rw [hM, upr_same]
    have hMk : KpS I M := by rw [hM]; exact KpS.rfl'.upr (by omega)
    first | (change WP _ _ _ _ _ (K, upr I 319 (skyX (I 319) (nI 1)), L, R, n, s) Q; rw [show skyX (I 319) (nI 1) = skyW (I 319) by unfold skyW skyX; rw [if_pos h33], ← hM]) | (change WP _ _ _ _ _ (K, upr I 319 (skyX (I 319) (nI 0)), L, R, n, s) Q; rw [show skyX (I 319) (nI 0) = skyW (I 319) by unfold skyW skyX; rw [if_neg h33], ← hM])
    refine wp_aload0 (pc' := 43) rfl rfl ?_
    refine wp_callV1 (pc' := 46) rfl rfl rfl rfl rfl (by first | exact TK.k1 hT rfl | exact TK.kk hT rfl | exact TK.r hT rfl | assumption) rfl rfl ?_
    refine m_allSoak hT ?_
    rw [hMw]
    refine Cont.u ?_
    refine wp_aload0 (pc' := 47) rfl rfl ?_
    refine wp_callV1 (pc' := 50) rfl rfl rfl rfl rfl (by first | exact TK.k1 hT rfl | exact TK.kk hT rfl | exact TK.r hT rfl | assumption) rfl rfl ?_
    refine m_allDry (o := o) hT (by rw [upr_same]; exact RO_ag (soaW_neC (by omega)) (fun j hj => soaW_neC (by omega)) ((DWk_sky hdw)).1) (fun J hJ hJ9 => ?_)
    rw [upr_same] at hJ9
    have hJI : KpS I J := (hMk.upr (by omega)).tr hJ
    refine Cont.u ?_
    refine wp_iconst (v := nI 0) (pc' := 51) rfl rfl rfl ?_
    refine wp_istore2 (pc' := 52) rfl (by first | rfl | assumption) rfl ?_
    refine wp_iconst (v := nI 0) (pc' := 53) rfl rfl rfl ?_
    refine wp_istore3 (pc' := 54) rfl (by first | rfl | assumption) rfl ?_
    have lp54 : ∀ r (i : Nat) (v4 : Value), i + r = H → isL v4 = false → WP (d + 9) F_276 54 [.ref 318, .int (nI 0), .int (dctW (dryW (soaW (skyW (I 319)) 25) o 25) i).1, .int (nI i), v4] [] (K, upr J 319 (dctW (dryW (soaW (skyW (I 319)) 25) o 25) i).2, L, R, n, s) Q := by
      intro r; induction r with
      | zero =>
        intro i v4 hi hv0
        have hi2 : i = H := by omega
        subst hi2
        refine wp_iload3 (pc' := 55) rfl rfl ?_
        refine wp_aload0 (pc' := 56) rfl rfl ?_
        refine wp_callV1 (pc' := 59) rfl rfl rfl rfl rfl (by first | exact TK.k1 hT rfl | exact TK.kk hT rfl | exact TK.r hT rfl | assumption) rfl rfl ?_
        refine m_hearths hT (by rw [upr_same]; first | exact hp0 | exact hd0 _ (Nat.le_refl _)) ?_
        refine Cont.v ?_
        refine wp_icmpgeT rfl (nI_nlt (by omega) (by omega)) ?_
        refine wp_aload0 (pc' := 116) rfl rfl ?_
        refine wp_getRF (pc' := 119) rfl rfl (by first | exact TK.k1 hT rfl | exact TK.kk hT rfl | exact TK.r hT rfl | assumption) (by first | exact TK.k1 hT rfl | exact TK.kk hT rfl | exact TK.r hT rfl | assumption) rfl ?_
        refine wp_bipush (v := nI 6) (pc' := 121) rfl rfl rfl ?_
        refine wp_sipush (v := nI 9999) (pc' := 124) rfl rfl rfl ?_
        refine wp_aload0 (pc' := 125) rfl rfl ?_
        refine wp_getRF (pc' := 128) rfl rfl (by first | exact TK.k1 hT rfl | exact TK.kk hT rfl | exact TK.r hT rfl | assumption) (by first | exact TK.k1 hT rfl | exact TK.kk hT rfl | exact TK.r hT rfl | assumption) rfl ?_
        refine wp_bipush (v := nI 6) (pc' := 130) rfl rfl rfl ?_
        refine wp_iald _ (pc' := 131) rfl (by first | exact TK.k1 hT rfl | exact TK.kk hT rfl | exact TK.r hT rfl | assumption) (by with_reducible rfl) (by omega) (by first | decide | assumption | omega) rfl ?_
        refine wp_iconst (v := nI 1) (pc' := 132) rfl rfl rfl ?_
        first | refine wp_iaddN (pc' := 133) rfl (by with_reducible rfl) (by with_reducible rfl) rfl ?_ | refine wp_iadd (pc' := 133) rfl rfl ?_
        refine wp_min (pc' := 136) rfl rfl rfl rfl ?_
        refine wp_iast _ (pc' := 137) rfl (by first | exact TK.k1 hT rfl | exact TK.kk hT rfl | exact TK.r hT rfl | assumption) (by omega) (by with_reducible rfl) (by omega) (by first | decide | assumption | omega) rfl ?_
        refine wp_iload2 (pc' := 138) rfl rfl ?_
        refine wp_iret rfl rfl rfl ?_
        rw [upr_same, up2_upr]
        exact kk _ (hJI.upr (by omega)) upr_same
      | succ r ih =>
        intro i v4 hi hv0
        have hlt : i < H := by omega
        have hsx : (dctW (dryW (soaW (skyW (I 319)) 25) o 25) (i + 1)) = dctS i (dctW (dryW (soaW (skyW (I 319)) 25) o 25) i) := rfl
        have hp0 := hd0 i (by omega)
        have hpw := (hdk i (by omega)).1
        obtain ⟨p, hp⟩ : ∃ p, (dctW (dryW (soaW (skyW (I 319)) 25) o 25) i) = p := ⟨_, rfl⟩
        rw [hp] at hsx hp0 hpw ⊢
        refine wp_iload3 (pc' := 55) rfl rfl ?_
        refine wp_aload0 (pc' := 56) rfl rfl ?_
        refine wp_callV1 (pc' := 59) rfl rfl rfl rfl rfl (by first | exact TK.k1 hT rfl | exact TK.kk hT rfl | exact TK.r hT rfl | assumption) rfl rfl ?_
        refine m_hearths hT (by rw [upr_same]; first | exact hp0 | exact hd0 _ (Nat.le_refl _)) ?_
        refine Cont.v ?_
        refine wp_icmpgeF (pc' := 62) rfl (nI_lt (by omega) (by omega)) rfl ?_
        refine wp_aload0 (pc' := 63) rfl rfl ?_
        refine wp_iload3 (pc' := 64) rfl rfl ?_
        refine wp_iconst (v := nI 2) (pc' := 65) rfl rfl rfl ?_
        refine wp_callV3 (pc' := 68) rfl rfl rfl rfl rfl (by first | exact TK.k1 hT rfl | exact TK.kk hT rfl | exact TK.r hT rfl | assumption) rfl rfl ?_
        refine m_ofH hT (by omega) (by decide) ?_
        rw [upr_same]
        refine Cont.v ?_
        refine wp_aload0 (pc' := 69) rfl rfl ?_
        refine wp_iload3 (pc' := 70) rfl rfl ?_
        refine wp_iconst (v := nI 1) (pc' := 71) rfl rfl rfl ?_
        refine wp_callV3 (pc' := 74) rfl rfl rfl rfl rfl (by first | exact TK.k1 hT rfl | exact TK.kk hT rfl | exact TK.r hT rfl | assumption) rfl rfl ?_
        refine m_ofH hT (by omega) (by decide) ?_
        rw [upr_same]
        refine Cont.v ?_
        refine wp_icmpge (pc' := 77) rfl rfl ?_ ?_
        · intro h74
          refine wp_iconst (v := (-1)) (pc' := 86) rfl rfl rfl ?_
          refine wp_istore4 (pc' := 88) rfl (by first | rfl | assumption) rfl ?_
          refine wp_iload4 (pc' := 90) rfl rfl ?_
          refine wp_iconst (v := (-1)) (pc' := 91) rfl rfl rfl ?_
          refine wp_icmpneF (pc' := 94) rfl rfl rfl ?_
          refine wp_goto rfl ?_
          first | refine wp_iinc3 (w := nI 1) (pc' := 112) rfl rfl rfl (by with_reducible exact nI_add _ _) rfl ?_ | refine wp_iinc3 (w := nI 1) (pc' := 112) rfl rfl rfl rfl rfl ?_
          refine wp_goto rfl ?_
          exact WP.cg (ih (i + 1) _ (by omega) (by first | rfl | assumption)) (lC1 (lI1 (by first | with_reducible rfl | (rw [hsx]; simp +decide only [dctS, dayC, h74, h91, hcf, hcn, ↓reduceIte]; done) | (rw [hsx]; simp +decide only [dctS, dayC, h74, h91, ↓reduceIte]; done) | (rw [hsx]; simp +decide only [dctS, dayC, h74, ↓reduceIte]; done)) (lI1 (by first | with_reducible rfl | (rw [hsx]; simp +decide only [dctS, dayC, h74, h91, hcf, hcn, ↓reduceIte]; done) | (rw [hsx]; simp +decide only [dctS, dayC, h74, h91, ↓reduceIte]; done) | (rw [hsx]; simp +decide only [dctS, dayC, h74, ↓reduceIte]; done)) (lI1 (by first | with_reducible rfl | (rw [hsx]; simp +decide only [dctS, dayC, h74, h91, hcf, hcn, ↓reduceIte]; done) | (rw [hsx]; simp +decide only [dctS, dayC, h74, h91, ↓reduceIte]; done) | (rw [hsx]; simp +decide only [dctS, dayC, h74, ↓reduceIte]; done)) (lC1 rfl))))) rfl (by rw [hsx]; first | (simp +decide only [dctS, dayC, h74, hcf, hcn, ↓reduceIte]; rw [tn_nI (by omega)]; done) | (simp +decide only [dctS, dayC, h74, h91, ↓reduceIte]; done) | (simp +decide only [dctS, dayC, h74, ↓reduceIte]; done))
        · intro h74
          refine wp_aload0 (pc' := 78) rfl rfl ?_
          refine wp_iload3 (pc' := 79) rfl rfl ?_
          refine wp_callV2 (pc' := 82) rfl rfl rfl rfl rfl (by first | exact TK.k1 hT rfl | exact TK.kk hT rfl | exact TK.r hT rfl | assumption) rfl rfl ?_
          refine m_cutsAt hT (by omega) ?_
          rw [upr_same]
          refine Cont.v ?_
          refine wp_goto rfl ?_
          refine wp_istore4 (pc' := 88) rfl (by first | rfl | assumption) rfl ?_
          refine wp_iload4 (pc' := 90) rfl rfl ?_
          refine wp_iconst (v := (-1)) (pc' := 91) rfl rfl rfl ?_
          refine wp_icmpne (pc' := 94) rfl rfl ?_ ?_
          · intro h91
            refine wp_aload0 (pc' := 98) rfl rfl ?_
            refine wp_iload3 (pc' := 99) rfl rfl ?_
            refine wp_iload4 (pc' := 101) rfl rfl ?_
            refine wp_iconst (v := nI 0) (pc' := 102) rfl rfl rfl ?_
            refine wp_callV4 (pc' := 105) rfl rfl rfl rfl rfl (by first | exact TK.k1 hT rfl | exact TK.kk hT rfl | exact TK.r hT rfl | assumption) rfl rfl ?_
            obtain ⟨c, hc25, hco, hcf⟩ := fopS_cases h91
            have hcn : ¬ nI c = -1 := nI_nm1 (by omega)
            rw [hcf]
            refine m_isCut hT (by omega) hc25 (by rw [upr_same]; exact WOk_z (H := H) (by omega) hc25 hpw) ?_
            rw [upr_upr, upr_same]
            refine Cont.v ?_
            refine wp_pop (pc' := 106) rfl rfl rfl ?_
            first | refine wp_iinc2 (w := nI 1) (pc' := 109) rfl rfl rfl (by with_reducible exact nI_add _ _) rfl ?_ | refine wp_iinc2 (w := nI 1) (pc' := 109) rfl rfl rfl rfl rfl ?_
            first | refine wp_iinc3 (w := nI 1) (pc' := 112) rfl rfl rfl (by with_reducible exact nI_add _ _) rfl ?_ | refine wp_iinc3 (w := nI 1) (pc' := 112) rfl rfl rfl rfl rfl ?_
            refine wp_goto rfl ?_
            exact WP.cg (ih (i + 1) _ (by omega) (by first | rfl | assumption)) (lC1 (lI1 (by first | with_reducible rfl | (rw [hsx]; simp +decide only [dctS, dayC, h74, h91, hcf, hcn, ↓reduceIte]; done) | (rw [hsx]; simp +decide only [dctS, dayC, h74, h91, ↓reduceIte]; done) | (rw [hsx]; simp +decide only [dctS, dayC, h74, ↓reduceIte]; done)) (lI1 (by first | with_reducible rfl | (rw [hsx]; simp +decide only [dctS, dayC, h74, h91, hcf, hcn, ↓reduceIte]; done) | (rw [hsx]; simp +decide only [dctS, dayC, h74, h91, ↓reduceIte]; done) | (rw [hsx]; simp +decide only [dctS, dayC, h74, ↓reduceIte]; done)) (lI1 (by first | with_reducible rfl | (rw [hsx]; simp +decide only [dctS, dayC, h74, h91, hcf, hcn, ↓reduceIte]; done) | (rw [hsx]; simp +decide only [dctS, dayC, h74, h91, ↓reduceIte]; done) | (rw [hsx]; simp +decide only [dctS, dayC, h74, ↓reduceIte]; done)) (lC1 rfl))))) rfl (by rw [hsx]; first | (simp +decide only [dctS, dayC, h74, hcf, hcn, ↓reduceIte]; rw [tn_nI (by omega)]; done) | (simp +decide only [dctS, dayC, h74, h91, ↓reduceIte]; done) | (simp +decide only [dctS, dayC, h74, ↓reduceIte]; done))
          · intro h91
            refine wp_goto rfl ?_
            first | refine wp_iinc3 (w := nI 1) (pc' := 112) rfl rfl rfl (by with_reducible exact nI_add _ _) rfl ?_ | refine wp_iinc3 (w := nI 1) (pc' := 112) rfl rfl rfl rfl rfl ?_
            refine wp_goto rfl ?_
            exact WP.cg (ih (i + 1) _ (by omega) (by first | rfl | assumption)) (lC1 (lI1 (by first | with_reducible rfl | (rw [hsx]; simp +decide only [dctS, dayC, h74, h91, hcf, hcn, ↓reduceIte]; done) | (rw [hsx]; simp +decide only [dctS, dayC, h74, h91, ↓reduceIte]; done) | (rw [hsx]; simp +decide only [dctS, dayC, h74, ↓reduceIte]; done)) (lI1 (by first | with_reducible rfl | (rw [hsx]; simp +decide only [dctS, dayC, h74, h91, hcf, hcn, ↓reduceIte]; done) | (rw [hsx]; simp +decide only [dctS, dayC, h74, h91, ↓reduceIte]; done) | (rw [hsx]; simp +decide only [dctS, dayC, h74, ↓reduceIte]; done)) (lI1 (by first | with_reducible rfl | (rw [hsx]; simp +decide only [dctS, dayC, h74, h91, hcf, hcn, ↓reduceIte]; done) | (rw [hsx]; simp +decide only [dctS, dayC, h74, h91, ↓reduceIte]; done) | (rw [hsx]; simp +decide only [dctS, dayC, h74, ↓reduceIte]; done)) (lC1 rfl))))) rfl (by rw [hsx]; first | (simp +decide only [dctS, dayC, h74, hcf, hcn, ↓reduceIte]; rw [tn_nI (by omega)]; done) | (simp +decide only [dctS, dayC, h74, h91, ↓reduceIte]; done) | (simp +decide only [dctS, dayC, h74, ↓reduceIte]; done))
    exact WP.cg (lp54 (H - (0)) (0) _ (by omega) (by first | rfl | assumption)) (lC1 (lI1 (by first | with_reducible rfl | rw [dctW_0]) (lI1 (by first | with_reducible rfl | rw [dctW_0]) (lI1 (by first | with_reducible rfl | rw [dctW_0]) (lC1 rfl))))) rfl (by rw [dctW_0, ← hJ9, upr_id])
