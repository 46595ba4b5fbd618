/-! A law's text in the reference, whole -/
def lnR (tv : Nat → Nat) (T l : Nat) (st : Sz) (q : Nat) : Re := if l < 12 then linR tv T st q else (false, st, q)
theorem ll_x {T l k v p b : Nat} {tv : Nat → Nat} {st : Sz} {I J N : Mem} {r : Re} (h : TkJ I J p b) (g : LlJ T tv l st k v J r N) : LlJ T tv l st k v I r N := ⟨fr_t (fr_tk h) g.1, g.2⟩

theorem m_lineL {d : Nat} {K : Nat → Nat × Nat} {I : Nat → Nat → Int32} {L : Nat → Nat → Int64} {R : Nat → Nat → Option Nat} {n s : Nat} {Q : Lo → Lm → Prop} {T p i : Nat} {tv : Nat → Nat} {st : Sz} (hT : TK K R n) (hR : RfI I T tv) (hp : p ≤ T) (h10 : I 318 10 = nI p) (hS : SS K I R) (hi9 : i ≤ 12) (hD : DrS (I 319) st) (hz16 : I 318 16 = nI st.2) (hg : st.2 ≤ skp tv T p) (kk : ∀ J k v, ((lnR tv T i st (skp tv T p)).1 = true → ∃ z, hedF tv T (skp tv T p) = .inr (k, v, z)) → LlJ T tv i st k v I (lnR tv T i st (skp tv T p)) J → Q (.inl (some (.int (if (lnR tv T i st (skp tv T p)).1 = true then nI 1 else nI 0)))) (K, J, L, R, n, s)) : Ok (d + 29) 224 [.ref 318, .int (nI 0), .int (nI i)] (K, I, L, R, n, s) Q := by
  obtain ⟨-, -, hn⟩ := id hT
  refine Ok.enter (F := F_224) (ls := [.ref 318, .int (nI 0), .int (nI i)]) rfl rfl ?_
  refine wp_aload0 (pc' := 1) rfl rfl ?_
  refine wp_callV1 (pc' := 4) rfl rfl rfl rfl rfl (by first | exact TK.k1 hT rfl | exact TK.kk hT rfl | exact TK.r hT rfl | assumption) rfl rfl ?_
  refine m_lettersTJ hT hR hp h10 (fun J1 hJ1 => ?_)
  obtain ⟨q, hq⟩ : ∃ q, skp tv T p = q := ⟨_, rfl⟩
  have hqT := (skp_ge (tv := tv) hp).2
  have hlT := letN_le (tv := tv) (T := T) (p := q)
  rw [hq] at hJ1 hqT kk
  rw [hq] at hg
  refine Cont.u ?_
  refine wp_iload2 (pc' := 5) rfl rfl ?_
  refine wp_iload1 (pc' := 6) rfl rfl ?_
  refine wp_ifeqT rfl rfl ?_
  refine wp_bipush (v := nI 12) (pc' := 16) rfl rfl rfl ?_
  refine wp_icmpge (pc' := 19) rfl rfl ?_ ?_
  · intro h16
    refine wp_iconst (v := nI 0) (pc' := 46) rfl rfl rfl ?_
    refine wp_iret rfl rfl (by first | rfl | exact nar_if) ?_
    first | (rw [hlr] at kk; exact Qv (kk J k v hh (ll_x hJ1 hJ)) (by rw [if_pos h38]) rfl) | (rw [hlr] at kk; exact Qv (kk J k v hh (ll_x hJ1 hJ)) (by rw [if_neg h38]) rfl) | (have hlr : lnR tv T i st q = (false, st, q) := if_neg (fun z => h16 (nI_lt z (by omega))); rw [hlr] at kk; exact kk J1 0 0 (fun z => absurd (show false = true from z) (by decide)) (ll_f (fr_tk hJ1) hJ1.2.2.2))
  · intro h16
    refine wp_iload1 (pc' := 20) rfl rfl ?_
    refine wp_ifeqT rfl rfl ?_
    refine wp_aload0 (pc' := 34) rfl rfl ?_
    refine wp_iload2 (pc' := 35) rfl rfl ?_
    refine wp_callV2 (pc' := 38) rfl rfl rfl rfl rfl (by first | exact TK.k1 hT rfl | exact TK.kk hT rfl | exact TK.r hT rfl | assumption) rfl rfl ?_
    have hi12 := nI_lt_inv (by omega) (by omega) h16
    refine m_readLawLine (q := q) (st := st) hT (tk_rd hJ1 hR) (tk_ss hJ1 hS) hqT hJ1.2.2.1 hJ1.2.2.2 hi12 (by rw [hJ1.1 319 (by decide)]; exact hD) (by rw [hJ1.2.1 16 (by decide) (by decide)]; exact hz16) hg (fun J k v hh hJ => ?_)
    have hlr : lnR tv T i st q = linR tv T st q := if_pos hi12
    refine Cont.v ?_
    first | refine wp_ifeqB (pc' := 41) rfl rfl ?_ ?_ | refine wp_ifeq (pc' := 41) rfl rfl ?_ ?_
    · intro h38
      refine wp_iconst (v := nI 0) (pc' := 46) rfl rfl rfl ?_
      refine wp_iret rfl rfl (by first | rfl | exact nar_if) ?_
      first | (rw [hlr] at kk; exact Qv (kk J k v hh (ll_x hJ1 hJ)) (by rw [if_pos h38]) rfl) | (rw [hlr] at kk; exact Qv (kk J k v hh (ll_x hJ1 hJ)) (by rw [if_neg h38]) rfl) | (have hlr : lnR tv T i st q = (false, st, q) := if_neg (fun z => h16 (nI_lt z (by omega))); rw [hlr] at kk; exact kk J1 0 0 (fun z => absurd (show false = true from z) (by decide)) (ll_f (fr_tk hJ1) hJ1.2.2.2))
    · intro h38
      refine wp_iconst (v := nI 1) (pc' := 42) rfl rfl rfl ?_
      refine wp_goto rfl ?_
      refine wp_iret rfl rfl (by first | rfl | exact nar_if) ?_
      first | (rw [hlr] at kk; exact Qv (kk J k v hh (ll_x hJ1 hJ)) (by rw [if_pos h38]) rfl) | (rw [hlr] at kk; exact Qv (kk J k v hh (ll_x hJ1 hJ)) (by rw [if_neg h38]) rfl) | (have hlr : lnR tv T i st q = (false, st, q) := if_neg (fun z => h16 (nI_lt z (by omega))); rw [hlr] at kk; exact kk J1 0 0 (fun z => absurd (show false = true from z) (by decide)) (ll_f (fr_tk hJ1) hJ1.2.2.2))
/-- the lines as they lie in the draft -/
def LdI (w : Nat → Int32) (C : Mem) (i : Nat) : Prop := ∀ l, l < i → w (1333 + 4 * l) = C 42 l ∧ w (1333 + 4 * l + 1) = C 43 l ∧ w (1333 + 4 * l + 2) = C 44 l ∧ w (1333 + 4 * l + 3) = C 44 (l + 1)
theorem ld_s {w w2 : Nat → Int32} {C : Mem} {i k v z z0 : Nat} (h : LdI w C i) (hw : ∀ j, j < 1333 + 4 * i → w2 j = w j) (h0 : C 44 i = nI z0) (h1 : w2 (1333 + 4 * i) = nI k) (h2 : w2 (1333 + 4 * i + 1) = nI v) (h3 : w2 (1333 + 4 * i + 2) = nI z0) (h4 : w2 (1333 + 4 * i + 3) = nI z) : LdI w2 (linM (hedM C i k v) i z) (i + 1) := by
  intro l hl
  unfold linM hedM
  rw [up2_row (show (42 : Nat) ≠ 44 by decide), up2_row (show (43 : Nat) ≠ 44 by decide), up2_row (show (42 : Nat) ≠ 41 by decide), up2_row (show (43 : Nat) ≠ 41 by decide), up2_row (show (42 : Nat) ≠ 43 by decide), up2_same, up2_same, up2_row (show (43 : Nat) ≠ 42 by decide), up2_same, up2_same, up2_row (show (44 : Nat) ≠ 41 by decide), up2_row (show (44 : Nat) ≠ 43 by decide), up2_row (show (44 : Nat) ≠ 42 by decide)]
  by_cases e : l = i
  · subst e
    rw [if_pos rfl, if_pos rfl, if_pos rfl, if_neg (by omega), h0]
    exact ⟨h1, h2, h3, h4⟩
  · rw [if_neg e, if_neg e, if_neg (by omega), if_neg (by omega), hw _ (by omega), hw _ (by omega), hw _ (by omega), hw _ (by omega)]
    exact h l (by omega)
theorem lin_44 {C : Mem} {i z : Nat} : linM C i z 44 (i + 1) = nI z ∧ linM C i z 41 5 = nI (i + 1) := by
  unfold linM
  exact ⟨up2_hit, by rw [up2_row (by decide), up2_hit]⟩
/-- the text of a law, as far as it is read -/
def AlL (T : Nat) (tv : Nat → Nat) (I : Mem) (rq : Rw) (i : Nat) (J : Mem) : Prop := AlI T tv I J ∧ i ≤ 12 ∧ (∀ j, j < 1332 → J 319 j = I 319 j) ∧ ∃ C st p, p ≤ T ∧ J 318 10 = nI p ∧ LdI (J 319) C i ∧ C 44 i = nI st.2 ∧ DrS (J 319) st ∧ J 318 16 = nI st.2 ∧ st.2 ≤ skp tv T p ∧ lawL tv T (12 - i) i C st (skp tv T p) = rq
/-- what the text of a law leaves -/
def AwJ (I : Mem) (rq : Rw) (x : Int32) (J : Mem) : Prop := (∀ a, a ≠ 318 → a ≠ 319 → J a = I a) ∧ (∀ j, (j = 6 ∨ j = 7) → J 318 j = I 318 j) ∧ J 318 0 = nI 0 ∧ J 318 9 = nI 0 ∧ (∀ j, j < 1332 → J 319 j = I 319 j) ∧ (rq.1 = true → ∃ i, i ≤ 12 ∧ x = nI i ∧ rq.2.1 41 5 = nI i ∧ LdI (J 319) rq.2.1 i ∧ DrS (J 319) rq.2.2.1 ∧ rq.2.2.1.2 ≤ 400) ∧ (rq.1 = false → x = -1 ∧ J 318 12 = nI rq.2.2.2)
theorem aw_f {T : Nat} {tv : Nat → Nat} {I J C : Mem} {st : Sz} {z : Nat} (h : AlI T tv I J) (hj : ∀ j, j < 1332 → J 319 j = I 319 j) (h12 : J 318 12 = nI z) : AwJ I (false, C, st, z) (-1) J := ⟨h.1, h.2.1, h.2.2.1, h.2.2.2.1, hj, fun q => absurd (show false = true from q) (by decide), fun _ => ⟨rfl, h12⟩⟩
theorem aw_t {T i : Nat} {tv : Nat → Nat} {I J C : Mem} {st : Sz} {z : Nat} (h : AlI T tv I J) (hj : ∀ j, j < 1332 → J 319 j = I 319 j) (hi : i ≤ 12) (hc : C 41 5 = nI i) (hL : LdI (J 319) C i) (hD : DrS (J 319) st) (hz : st.2 ≤ 400) : AwJ I (true, C, st, z) (nI i) J := ⟨h.1, h.2.1, h.2.2.1, h.2.2.2.1, hj, fun _ => ⟨i, hi, rfl, hc, hL, hD, hz⟩, fun q => absurd (show true = false from q) (by decide)⟩
/-- a line that is not one ends the text -/
theorem lal_f {tv : Nat → Nat} {T i q : Nat} {C : Mem} {st : Sz} {r : Re} {rq : Rw} (hi : i ≤ 12) (h : lawL tv T (12 - i) i C st q = rq) (hr : lnR tv T i st q = r) (hb : ¬ r.1 = true) : ∃ C2 s2, rq = (false, C2, s2, r.2.2) := by
  unfold lnR at hr
  by_cases e : i < 12
  · rw [if_pos e] at hr
    rw [show 12 - i = (12 - (i + 1)) + 1 by omega, lawL] at h
    unfold linR at hr
    cases hh : hedF tv T q with
    | inl z => rw [hh] at h hr; exact ⟨C, st, by rw [← h, ← hr]⟩
    | inr x =>
      rw [hh] at h hr
      dsimp only at h hr
      rw [hr, if_neg hb] at h
      exact ⟨_, _, h.symm⟩
  · rw [if_neg e] at hr
    rw [show 12 - i = 0 by omega, lawL] at h
    exact ⟨C, st, by rw [← h, ← hr]⟩
theorem lal_t {tv : Nat → Nat} {T i q k v z : Nat} {C : Mem} {st : Sz} {r : Re} {rq : Rw} (h : lawL tv T (12 - i) i C st q = rq) (hr : lnR tv T i st q = r) (hb : r.1 = true) (hh : hedF tv T q = .inr (k, v, z)) : i < 12 ∧ (if T ≤ r.2.2 then (true, linM (hedM C i k v) i r.2.1.2, r.2) else if sgn tv T r.2.2 59 then lawL tv T (12 - (i + 1)) (i + 1) (linM (hedM C i k v) i r.2.1.2) r.2.1 (skp tv T (r.2.2 + 1)) else (false, linM (hedM C i k v) i r.2.1.2, r.2)) = rq := by
  unfold lnR at hr
  by_cases e : i < 12
  · rw [if_pos e] at hr
    rw [show 12 - i = (12 - (i + 1)) + 1 by omega, lawL, hh] at h
    rw [linR_r hh] at hr
    dsimp only at h
    rw [hr, if_pos hb] at h
    exact ⟨e, h⟩
  · rw [if_neg e] at hr
    rw [← hr] at hb
    exact absurd (show false = true from hb) (by decide)
theorem cnd_gr {tv : Nat → Nat} {T : Nat} : Gr T (cndF tv T) := fun st p hp h => by
  unfold cndF at h ⊢
  by_cases c : wdB tv T p kIf = true
  · rw [if_pos c] at h ⊢
    have ha := af_gt (tv := tv) hp
    have g := gr_any st _ ha.2 h
    exact ⟨by omega, g.2⟩
  · rw [if_neg c]; exact ⟨Nat.le_refl _, hp⟩
theorem cnd_mo {tv : Nat → Nat} {T : Nat} : Mo T (cndF tv T) := fun st p hp h => by
  unfold cndF at h ⊢
  by_cases c : wdB tv T p kIf = true
  · rw [if_pos c] at h ⊢
    have ha := af_gt (tv := tv) hp
    have g := mo_any st _ ha.2 h
    exact ⟨by omega, g.2⟩
  · rw [if_neg c]; exact ⟨Nat.le_refl _, hp⟩
theorem hed_gt {tv : Nat → Nat} {T q k v z : Nat} (hq : q ≤ T) (h : hedF tv T q = .inr (k, v, z)) : q + 1 ≤ z ∧ z ≤ T := by
  have ha := af_gt (tv := tv) hq
  unfold hedF at h
  cases hk : wd tv T q kinW with
  | none => rw [hk] at h; cases h
  | some k2 =>
    rw [hk] at h
    dsimp only at h
    cases hN : numR tv T (af tv T q) (nI 0) (nI 20) with
    | none => rw [hN] at h; cases h
    | some x =>
      obtain ⟨v2, z2⟩ := x
      rw [hN] at h
      have e : z2 = z := by cases h; rfl
      have := num_gt ha.2 hN
      omega
theorem lal_g {tv : Nat → Nat} {T i q k v z : Nat} {st : Sz} {r : Re} (hq : q ≤ T) (hi : i < 12) (hr : lnR tv T i st q = r) (hb : r.1 = true) (hh : hedF tv T q = .inr (k, v, z)) (hg : st.2 ≤ q) : r.2.1.2 + 1 ≤ r.2.2 ∧ r.2.2 ≤ T := by
  have hz := hed_gt hq hh
  unfold lnR at hr
  rw [if_pos hi, linR_r hh] at hr
  have g := cnd_gr (tv := tv) (T := T) st z hz.2 (by rw [hr]; exact hb)
  rw [hr] at g
  exact ⟨by omega, g.2⟩
theorem aln {T i k v : Nat} {tv : Nat → Nat} {I J2 C : Mem} {r1 : Re} {rq : Rw} (hA3 : AlI T tv I J2) (hi : i < 12) (hj : ∀ j, j < 1332 → J2 319 j = I 319 j) (hL : LdI (J2 319) (linM (hedM C i k v) i r1.2.1.2) (i + 1)) (hD : DrS (J2 319) r1.2.1) (h16 : J2 318 16 = nI r1.2.1.2) (hg : r1.2.1.2 + 1 ≤ r1.2.2) (hnx : (if T ≤ r1.2.2 then (true, linM (hedM C i k v) i r1.2.1.2, r1.2) else if sgn tv T r1.2.2 59 then lawL tv T (12 - (i + 1)) (i + 1) (linM (hedM C i k v) i r1.2.1.2) r1.2.1 (skp tv T (r1.2.2 + 1)) else (false, linM (hedM C i k v) i r1.2.1.2, r1.2)) = rq) (h66 : r1.2.2 < T ∧ 59 ≤ tv r1.2.2 ∧ tv r1.2.2 ≤ 59) : AlL T tv I rq (i + 1) (up2 J2 318 10 (nI (r1.2.2 + 1))) := by
  rw [if_neg (by omega), if_pos ⟨h66.1, by omega⟩] at hnx
  have h9 : up2 J2 318 10 (nI (r1.2.2 + 1)) 319 = J2 319 := up2_row (by decide)
  have hs := skp_ge (tv := tv) (T := T) (p := r1.2.2 + 1) h66.1
  refine ⟨⟨fun a a1 a2 => (up2_row a1).trans (hA3.1 a a1 a2), fun j hj => ?_, ?_, ?_, ?_⟩, by omega, by rw [h9]; exact hj, _, r1.2.1, r1.2.2 + 1, h66.1, up2_hit, by rw [h9]; exact hL, lin_44.1, by rw [h9]; exact hD, ?_, by omega, hnx⟩
  · rw [up2_same, if_neg (by omega)]; exact hA3.2.1 j hj
  · rw [up2_same, if_neg (by decide)]; exact hA3.2.2.1
  · rw [up2_same, if_neg (by decide)]; exact hA3.2.2.2.1
  · rw [up2_same, if_neg (by decide)]; exact hA3.2.2.2.2
  · rw [up2_same, if_neg (by decide)]; exact h16
theorem al_fr {T l : Nat} {tv : Nat → Nat} {I J N : Mem} (h : AlI T tv I J) (g : FrL l J N) : AlI T tv I N := ⟨fun a a1 a2 => (g.1 a a1 a2).trans (h.1 a a1 a2), fun j hj => (g.2.2 j (by omega) (by omega) (by omega) (by omega)).trans (h.2.1 j hj), (g.2.2 0 (by decide) (by decide) (by decide) (by decide)).trans h.2.2.1, (g.2.2 9 (by decide) (by decide) (by decide) (by decide)).trans h.2.2.2.1, (g.2.2 11 (by decide) (by decide) (by decide) (by decide)).trans h.2.2.2.2⟩

theorem m_allL {d : Nat} {K : Nat → Nat × Nat} {I : Nat → Nat → Int32} {L : Nat → Nat → Int64} {R : Nat → Nat → Option Nat} {n s : Nat} {Q : Lo → Lm → Prop} {T : Nat} {C : Mem} {tv : Nat → Nat} {rq : Rw} (hT : TK K R n) (h9 : I 318 9 = nI T) (hT4 : T ≤ 400) (htp : TpW (I 324) tv) (hS : SS K I R) (hC0 : C 44 0 = nI 0) (hrq : lawA tv T C (skp tv T 0) = rq) (kk : ∀ x J, AwJ I rq x J → Q (.inl (some (.int (x)))) (K, J, L, R, n, s)) : Ok (d + 30) 220 [.ref 318, .int (nI 0)] (K, I, L, R, n, s) Q := by
  obtain ⟨-, -, hn⟩ := id hT
  refine Ok.enter (F := F_220) (ls := [.ref 318, .int (nI 0), lDead]) rfl rfl ?_
  refine wp_aload0 (pc' := 1) rfl rfl ?_
  refine wp_callV1 (pc' := 4) rfl rfl rfl rfl rfl (by first | exact TK.k1 hT rfl | exact TK.kk hT rfl | exact TK.r hT rfl | assumption) rfl rfl ?_
  refine m_usesN hT h9 (fun N hN => ?_)
  refine Cont.u ?_
  refine wp_aload0 (pc' := 5) rfl rfl ?_
  refine wp_iconst (v := nI 0) (pc' := 6) rfl rfl rfl ?_
  refine wp_putI (pc' := 9) rfl rfl (by first | exact TK.k1 hT rfl | exact TK.kk hT rfl | exact TK.r hT rfl | assumption) (by omega) rfl ?_
  refine wp_aload0 (pc' := 10) rfl rfl ?_
  refine wp_callV1 (pc' := 13) rfl rfl rfl rfl rfl (by first | exact TK.k1 hT rfl | exact TK.kk hT rfl | exact TK.r hT rfl | assumption) rfl rfl ?_
  obtain ⟨hA0, hM10, hM9⟩ := al_0 (tv := tv) hN
  refine m_blanksTJ hT (al_rf hA0 hT4 htp) (Nat.zero_le _) hM10 (fun J0 hJ0 => ?_)
  have hA1 := al_tk hA0 hJ0
  have hJ9 : J0 319 = I 319 := (hJ0.1 319 (by decide)).trans hM9
  have hJ16 : J0 318 16 = nI 0 := by rw [hJ0.2.1 16 (by decide) (by decide), up2_hit]
  have hsT := (skp_ge (tv := tv) (Nat.zero_le T)).2
  refine Cont.u ?_
  refine wp_aload0 (pc' := 14) rfl rfl ?_
  refine wp_getI (pc' := 17) rfl rfl (by first | exact TK.k1 hT rfl | exact TK.kk hT rfl | exact TK.r hT rfl | assumption) rfl ?_
  rw [hJ0.2.2.1]
  refine wp_aload0 (pc' := 18) rfl rfl ?_
  refine wp_getI (pc' := 21) rfl rfl (by first | exact TK.k1 hT rfl | exact TK.kk hT rfl | exact TK.r hT rfl | assumption) rfl ?_
  rw [hA1.2.2.2.2]
  refine wp_icmpne (pc' := 24) rfl rfl ?_ ?_
  · intro h21
    refine wp_iconst (v := nI 0) (pc' := 27) rfl rfl rfl ?_
    refine wp_istore2 (pc' := 28) rfl (by first | rfl | assumption) rfl ?_
    have lp28 : ∀ r (i : Nat) (J : Mem), i + r = 13 → AlL T tv I rq i J → WP (d + 29) F_220 28 [.ref 318, .int (nI 0), .int (nI i)] [] (K, J, L, R, n, s) Q := by
      intro r; induction r with
      | zero =>
        intro i J hi hv0
        exact absurd hv0.2.1 (by omega)
      | succ r ih =>
        intro i J hi hv0
        refine wp_aload0 (pc' := 29) rfl rfl ?_
        refine wp_iload1 (pc' := 30) rfl rfl ?_
        refine wp_iload2 (pc' := 31) rfl rfl ?_
        refine wp_callV3 (pc' := 34) rfl rfl rfl rfl rfl (by first | exact TK.k1 hT rfl | exact TK.kk hT rfl | exact TK.r hT rfl | assumption) rfl rfl ?_
        obtain ⟨hA, hi12, hjw, C, st, p2, hp2, hJp, hLd, hC44, hD, h16, hgz, hwl⟩ := hv0
        refine m_lineL (st := st) hT (al_rf hA hT4 htp) hp2 hJp (SS_off hS (fun a ha => hA.1 a (by unfold lmB at ha; omega) (by unfold lmB at ha; omega))) hi12 hD h16 hgz (fun J1 k v hh hJ1 => ?_)
        obtain ⟨q, hq⟩ : ∃ q, skp tv T p2 = q := ⟨_, rfl⟩
        have hqT := (skp_ge (tv := tv) hp2).2
        rw [hq] at hqT hgz hwl hh hJ1 ⊢
        obtain ⟨r1, hr1⟩ : ∃ r, lnR tv T i st q = r := ⟨_, rfl⟩
        rw [hr1] at hh hJ1 ⊢
        have hA2 := al_fr hA hJ1.1
        have hjw1 : ∀ j, j < 1332 → J1 319 j = I 319 j := fun j hj => (hJ1.1.2.1 j (by omega)).trans (hjw j hj)
        refine Cont.v ?_
        first | refine wp_ifneB (pc' := 37) rfl rfl ?_ ?_ | refine wp_ifne (pc' := 37) rfl rfl ?_ ?_
        · intro h34
          refine wp_aload0 (pc' := 40) rfl rfl ?_
          refine wp_callV1 (pc' := 43) rfl rfl rfl rfl rfl (by first | exact TK.k1 hT rfl | exact TK.kk hT rfl | exact TK.r hT rfl | assumption) rfl rfl ?_
          obtain ⟨z1, hhd⟩ := hh h34
          obtain ⟨hi13, hnx⟩ := lal_t hwl hr1 h34 hhd
          obtain ⟨hD1, h161, ⟨hw1, hw2, hw3, hw4⟩, p3, hp3, hJ1p, hz⟩ := hJ1.2.1 h34
          have hgr := lal_g hqT hi13 hr1 h34 hhd hgz
          have hL1 := ld_s hLd hJ1.1.2.1 hC44 hw1 hw2 hw3 hw4
          refine m_blanksTJ hT (al_rf hA2 hT4 htp) hp3 hJ1p (fun J2 hJ2 => ?_)
          have hA3 := al_tk hA2 hJ2
          rw [hz] at hJ2
          have hzT := hgr.2
          have hJ29 : J2 319 = J1 319 := hJ2.1 319 (by decide)
          rw [← hJ29] at hD1 hL1 hjw1
          have h162 : J2 318 16 = nI r1.2.1.2 := (hJ2.2.1 16 (by decide) (by decide)).trans h161
          refine Cont.u ?_
          refine wp_aload0 (pc' := 44) rfl rfl ?_
          refine wp_getI (pc' := 47) rfl rfl (by first | exact TK.k1 hT rfl | exact TK.kk hT rfl | exact TK.r hT rfl | assumption) rfl ?_
          rw [hJ2.2.2.1]
          refine wp_aload0 (pc' := 48) rfl rfl ?_
          refine wp_getI (pc' := 51) rfl rfl (by first | exact TK.k1 hT rfl | exact TK.kk hT rfl | exact TK.r hT rfl | assumption) rfl ?_
          rw [hA3.2.2.2.2]
          refine wp_icmpne (pc' := 54) rfl rfl ?_ ?_
          · intro h51
            refine wp_aload0 (pc' := 59) rfl rfl ?_
            refine wp_bipush (v := nI 59) (pc' := 61) rfl rfl rfl ?_
            refine wp_bipush (v := nI 59) (pc' := 63) rfl rfl rfl ?_
            refine wp_callV3 (pc' := 66) rfl rfl rfl rfl rfl (by first | exact TK.k1 hT rfl | exact TK.kk hT rfl | exact TK.r hT rfl | assumption) rfl rfl ?_
            refine m_isAtTJ hT (al_rf hA3 hT4 htp) hzT hJ2.2.2.1 (by decide) (by decide) ?_
            refine Cont.v ?_
            first | refine wp_ifneB (pc' := 69) rfl rfl ?_ ?_ | refine wp_ifne (pc' := 69) rfl rfl ?_ ?_
            · intro h66
              refine wp_aload0 (pc' := 72) rfl rfl ?_
              refine wp_dup (pc' := 73) rfl rfl rfl ?_
              refine wp_getI (pc' := 76) rfl rfl (by first | exact TK.k1 hT rfl | exact TK.kk hT rfl | exact TK.r hT rfl | assumption) rfl ?_
              rw [hJ2.2.2.1]
              refine wp_iconst (v := nI 1) (pc' := 77) rfl rfl rfl ?_
              first | refine wp_iaddN (pc' := 78) rfl (by with_reducible rfl) (by with_reducible rfl) rfl ?_ | refine wp_iadd (pc' := 78) rfl rfl ?_
              refine wp_putI (pc' := 81) rfl rfl (by first | exact TK.k1 hT rfl | exact TK.kk hT rfl | exact TK.r hT rfl | assumption) (by omega) rfl ?_
              first | refine wp_iinc2 (w := nI 1) (pc' := 84) rfl rfl rfl (by with_reducible exact nI_add _ _) rfl ?_ | refine wp_iinc2 (w := nI 1) (pc' := 84) rfl rfl rfl rfl rfl ?_
              refine wp_goto rfl ?_
              exact WP.cg (ih (i + 1) (up2 J2 318 10 (nI (r1.2.2 + 1))) (by omega) (aln hA3 hi13 hjw1 hL1 hD1 h162 hgr.1 hnx h66)) (lC1 (lI1 (by rfl) (lI1 (by rfl) rfl))) rfl (by rfl)
            · intro h66
              refine wp_iconst (v := (-1)) (pc' := 70) rfl rfl rfl ?_
              refine wp_iret rfl rfl rfl ?_
              rw [if_neg (fun z => h51 (by rw [show r1.2.2 = T by omega])), if_neg (fun z => h66 ⟨z.1, by have := z.2; omega, by have := z.2; omega⟩)] at hnx
              subst hnx
              exact kk _ J2 (aw_f hA3 hjw1 hJ2.2.2.2)
          · intro h51
            refine wp_iload2 (pc' := 55) rfl rfl ?_
            refine wp_iconst (v := nI 1) (pc' := 56) rfl rfl rfl ?_
            first | refine wp_iaddN (pc' := 57) rfl (by with_reducible rfl) (by with_reducible rfl) rfl ?_ | refine wp_iadd (pc' := 57) rfl rfl ?_
            refine wp_iret rfl rfl rfl ?_
            have hTe := eq_nI h51 (by omega) (by omega)
            rw [if_pos (by omega)] at hnx
            subst hnx
            exact kk _ J2 (aw_t (i := i + 1) hA3 hjw1 (by omega) lin_44.2 hL1 hD1 (show r1.2.1.2 ≤ 400 by have := hgr.1; omega))
        · intro h34
          refine wp_iconst (v := (-1)) (pc' := 38) rfl rfl rfl ?_
          refine wp_iret rfl rfl rfl ?_
          obtain ⟨C2, s2, e⟩ := lal_f hi12 hwl hr1 h34
          subst e
          exact kk _ J1 (aw_f hA2 hjw1 (hJ1.2.2 (re_no h34)))
    exact WP.cg (lp28 13 (0) J0 (by omega) ⟨hA1, by omega, by rw [hJ9]; exact fun _ _ => rfl, _, (C 45, 0), _, hsT, hJ0.2.2.1, fun l hl => absurd hl (by omega), (show up2 C 41 5 (nI 0) 44 0 = nI 0 by rw [up2_row (by decide)]; exact hC0), fun l hl => absurd (show l < 0 from hl) (by omega), hJ16, Nat.zero_le _, by rw [skp_sk (Nat.zero_le _)]; have h0 := hrq; unfold lawA at h0; rw [if_neg (fun z => h21 (by rw [show skp tv T 0 = T by omega]))] at h0; exact h0⟩) (lC1 (lI1 (by rfl) (lI1 (by rfl) rfl))) rfl (by rfl)
  · intro h21
    refine wp_iconst (v := nI 0) (pc' := 25) rfl rfl rfl ?_
    refine wp_iret rfl rfl rfl ?_
    have hTe := eq_nI h21 (by omega) (by omega)
    have e : rq = (true, up2 C 41 5 (nI 0), (C 45, 0), skp tv T 0) := by rw [← hrq]; unfold lawA; rw [if_pos (show T ≤ skp tv T 0 by omega)]
    subst e
    exact kk _ J0 (aw_t (i := 0) hA1 (by rw [hJ9]; exact fun _ _ => rfl) (by decide) up2_hit (fun l hl => absurd hl (by omega)) (fun l hl => absurd (show l < 0 from hl) (by omega)) (Nat.zero_le 400))
