/-! A law's text: no more codes than letters; sums in the reference -/
theorem af_gt {tv : Nat → Nat} {T p : Nat} (hp : p ≤ T) : p + letN tv T p ≤ af tv T p ∧ af tv T p ≤ T := by
  have h := letN_le (tv := tv) (T := T) (p := p)
  exact skp_ge (p := p + letN tv T p) (by omega)
theorem wd_pos {tv : Nat → Nat} {T p k : Nat} {Ws : List (List Nat)} (hW : okWs Ws = true) (h : wd tv T p Ws = some k) : 1 ≤ letN tv T p := by
  apply Classical.byContradiction
  intro q
  rw [wd_0 hW (by omega)] at h
  cases h
theorem wdB_len {tv : Nat → Nat} {T p : Nat} {w : List Nat} (h : wdB tv T p w = true) : letN tv T p = w.length := by
  rw [Bool.and_eq_true] at h
  exact of_decide_eq_true h.1
theorem num_gt {tv : Nat → Nat} {T p v z : Nat} {lo hi : Int32} (hp : p ≤ T) (h : numR tv T p lo hi = some (v, z)) : p + 1 ≤ z ∧ z ≤ T := by
  have hl := dgN_lt (tv := tv) hp
  unfold numR at h
  split at h
  · cases h
  · rename_i hn
    have hz : skp tv T (dgN tv T p).1 = z := by cases h; rfl
    have h1 : ¬ (dgN tv T p).1 - p < 1 := fun q => hn (Or.inl q)
    have h2 := skp_ge (tv := tv) hl.2.1
    omega
theorem putS_1 {st : Sz} {v : Int32} : (putS st v).2 ≤ st.2 + 1 := by
  unfold putS
  split
  · exact Nat.le_refl _
  · omega
theorem parF_gr {tv : Nat → Nat} {T p z : Nat} {st s2 : Sz} (hp : p ≤ T) (h : parF tv T st p = some (s2, z)) : s2.2 ≤ st.2 + 1 ∧ p + 1 ≤ z ∧ z ≤ T := by
  by_cases c : atDg tv T p
  · cases hN : numR tv T p (nI 0) (nI 999) with
    | none => unfold parF at h; rw [if_pos c, hN] at h; cases h
    | some x =>
      obtain ⟨v, y⟩ := x
      rw [parF_d c hN] at h
      have hx : putS st (nI v) = s2 ∧ y = z := by cases h; exact ⟨rfl, rfl⟩
      rw [← hx.1, ← hx.2]
      exact ⟨putS_1, num_gt hp hN⟩
  · cases hN : wd tv T p parW with
    | none => unfold parF at h; rw [if_neg c, hN] at h; cases h
    | some k =>
      rw [parF_w c hN] at h
      have hx : putS st (nI (1000 + k)) = s2 ∧ af tv T p = z := by cases h; exact ⟨rfl, rfl⟩
      rw [← hx.1, ← hx.2]
      have := wd_pos (by decide) hN
      have := af_gt (tv := tv) hp
      exact ⟨putS_1, by omega, by omega⟩
/-- no more codes than letters -/
def Gr (T : Nat) (F : Sz → Nat → Re) : Prop := ∀ st p, p ≤ T → (F st p).1 = true → (F st p).2.1.2 + p ≤ st.2 + (F st p).2.2 ∧ (F st p).2.2 ≤ T
def sumK (tv : Nat → Nat) (T f i : Nat) (st : Sz) (z : Nat) : Re := if sgn tv T z 43 then sumF tv T f (i + 1) st (skp tv T (z + 1)) else (true, st, z)
theorem sumF_n {tv : Nat → Nat} {T f i p : Nat} {st : Sz} (h : parF tv T st p = none) : sumF tv T (f + 1) i st p = (false, st, p) := by rw [sumF, h]
theorem sumF_s {tv : Nat → Nat} {T f i p z : Nat} {st s2 : Sz} (h : parF tv T st p = some (s2, z)) : sumF tv T (f + 1) i st p = sumK tv T f i (addS i s2) z := by rw [sumF, h]; rfl
theorem addS_1 {i : Nat} {st : Sz} : (addS i st).2 ≤ st.2 + (if 0 < i then 1 else 0) := by
  unfold addS
  split
  · exact putS_1
  · exact Nat.le_refl _
theorem sumF_gr {tv : Nat → Nat} {T : Nat} : ∀ f i st p, p ≤ T → (sumF tv T f i st p).1 = true → (sumF tv T f i st p).2.1.2 + p ≤ st.2 + (sumF tv T f i st p).2.2 + (if 0 < i then 1 else 0) ∧ (sumF tv T f i st p).2.2 ≤ T ∧ p < (sumF tv T f i st p).2.2
  | 0, i, st, p => fun _ h => absurd (show false = true from h) (by decide)
  | f + 1, i, st, p => fun hp h => by
    cases hP : parF tv T st p with
    | none => rw [sumF_n hP] at h; exact absurd (show false = true from h) (by decide)
    | some x =>
      obtain ⟨s2, z⟩ := x
      have hg := parF_gr hp hP
      have ha := addS_1 (i := i) (st := s2)
      rw [sumF_s hP] at h ⊢
      unfold sumK at h ⊢
      by_cases c : sgn tv T z 43
      · rw [if_pos c] at h ⊢
        have hs := skp_ge (tv := tv) (p := z + 1) (T := T) c.1
        have ih := sumF_gr f (i + 1) (addS i s2) (skp tv T (z + 1)) hs.2 h
        rw [if_pos (show 0 < i + 1 by omega)] at ih
        refine ⟨?_, ih.2.1, by omega⟩
        have := ih.1
        have := hs.1
        omega
      · rw [if_neg c]
        refine ⟨?_, hg.2.2, by show p < z; omega⟩
        show (addS i s2).2 + p ≤ st.2 + z + _
        omega
theorem gr_sum {tv : Nat → Nat} {T : Nat} : Gr T (sumP tv T) := fun st p hp h => by
  have := sumF_gr 400 0 st p hp h
  rw [if_neg (by decide)] at this
  exact ⟨this.1, this.2.1⟩
theorem gr_cmp {tv : Nat → Nat} {T : Nat} : Gr T (cmpF tv T) := fun st p hp h => by
  unfold cmpF at h ⊢
  by_cases c : (sumP tv T st p).1 = true
  · have g1 := gr_sum st p hp c
    rw [if_pos c] at h ⊢
    generalize sumP tv T st p = r1 at *
    by_cases c1 : sgn tv T r1.2.2 60
    · rw [if_pos c1] at h ⊢
      have hs := skp_ge (tv := tv) (p := r1.2.2 + 1) (T := T) c1.1
      by_cases c2 : (sumP tv T r1.2.1 (skp tv T (r1.2.2 + 1))).1 = true
      · have g2 := gr_sum r1.2.1 _ hs.2 c2
        rw [if_pos c2]
        have hp2 := putS_1 (st := (sumP tv T r1.2.1 (skp tv T (r1.2.2 + 1))).2.1) (v := nI 1012)
        refine ⟨?_, g2.2⟩
        show (putS (sumP tv T r1.2.1 (skp tv T (r1.2.2 + 1))).2.1 (nI 1012)).2 + p ≤ st.2 + (sumP tv T r1.2.1 (skp tv T (r1.2.2 + 1))).2.2
        omega
      · rw [if_neg c2] at h; exact absurd h c2
    · rw [if_neg c1] at h ⊢
      by_cases c3 : sgn tv T r1.2.2 62
      · rw [if_pos c3] at h ⊢
        have hs := skp_ge (tv := tv) (p := r1.2.2 + 1) (T := T) c3.1
        by_cases c2 : (sumP tv T r1.2.1 (skp tv T (r1.2.2 + 1))).1 = true
        · have g2 := gr_sum r1.2.1 _ hs.2 c2
          rw [if_pos c2]
          have hp2 := putS_1 (st := (sumP tv T r1.2.1 (skp tv T (r1.2.2 + 1))).2.1) (v := nI 1013)
          refine ⟨?_, g2.2⟩
          show (putS (sumP tv T r1.2.1 (skp tv T (r1.2.2 + 1))).2.1 (nI 1013)).2 + p ≤ st.2 + (sumP tv T r1.2.1 (skp tv T (r1.2.2 + 1))).2.2
          omega
        · rw [if_neg c2] at h; exact absurd h c2
      · rw [if_neg c3] at h; exact absurd (show false = true from h) (by decide)
  · rw [if_neg c] at h; exact absurd h c
theorem gr_bas {tv : Nat → Nat} {T : Nat} : Gr T (basF tv T) := fun st p hp h => by
  unfold basF at h ⊢
  cases hk : wd tv T p facW with
  | some k =>
    have := wd_pos (by decide) hk
    have := af_gt (tv := tv) hp
    have hp2 := putS_1 (st := st) (v := nI (1007 + k))
    exact ⟨by show (putS _ _).2 + p ≤ st.2 + af tv T p; omega, by show af tv T p ≤ T; omega⟩
  | none => rw [hk] at h; exact gr_cmp st p hp h
theorem gr_lisL {tv : Nat → Nat} {T : Nat} {w : List Nat} {v : Int32} {A : Sz → Nat → Re} (hw : 1 ≤ w.length) (hA : Gr T A) : ∀ f, Gr T (lisL tv T w v A f)
  | 0 => fun st p hp _ => ⟨by show st.2 + p ≤ st.2 + p; omega, hp⟩
  | f + 1 => fun st p hp h => by
    rw [lisL] at h ⊢
    by_cases c : wdB tv T p w = true
    · rw [if_pos c] at h ⊢
      have hl := wdB_len c
      have ha := af_gt (tv := tv) hp
      by_cases c2 : (A st (af tv T p)).1 = true
      · rw [if_pos c2] at h ⊢
        have g1 := hA st _ ha.2 c2
        have g2 := gr_lisL hw hA f _ _ g1.2 h
        have hp2 := putS_1 (st := (A st (af tv T p)).2.1) (v := v)
        exact ⟨by omega, g2.2⟩
      · rw [if_neg c2] at h; exact absurd h c2
    · rw [if_neg c]; exact ⟨Nat.le_refl _, hp⟩
theorem gr_lis {tv : Nat → Nat} {T : Nat} {w : List Nat} {v : Int32} {A : Sz → Nat → Re} (hw : 1 ≤ w.length) (hA : Gr T A) : Gr T (lisF tv T w v A) := fun st p hp h => by
  unfold lisF at h ⊢
  by_cases c : (A st p).1 = true
  · rw [if_pos c] at h ⊢
    have g1 := hA st p hp c
    have g2 := gr_lisL hw hA 400 _ _ g1.2 h
    exact ⟨by omega, g2.2⟩
  · rw [if_neg c] at h; exact absurd h c
theorem gr_ato {tv : Nat → Nat} {T : Nat} : ∀ e, Gr T (atoF tv T e)
  | 0 => gr_bas
  | e + 1 => fun st p hp h => by
    have ih := gr_ato (tv := tv) (T := T) e
    unfold atoF at h ⊢
    by_cases c : wdB tv T p kNot = true
    · rw [if_pos c] at h ⊢
      have hl : letN tv T p = 3 := wdB_len c
      have ha := af_gt (tv := tv) hp
      unfold notF at h ⊢
      by_cases c2 : (atoF tv T e st (af tv T p)).1 = true
      · rw [if_pos c2]
        have g1 := ih st _ ha.2 c2
        have hp2 := putS_1 (st := (atoF tv T e st (af tv T p)).2.1) (v := nI 1010)
        exact ⟨by show (putS (atoF tv T e st (af tv T p)).2.1 (nI 1010)).2 + p ≤ st.2 + (atoF tv T e st (af tv T p)).2.2; omega, g1.2⟩
      · rw [if_neg c2] at h; exact absurd h c2
    · rw [if_neg c] at h ⊢
      by_cases c1 : sgn tv T p 40
      · rw [if_pos c1] at h ⊢
        have hs := skp_ge (tv := tv) (p := p + 1) (T := T) c1.1
        unfold clsF at h ⊢
        by_cases c2 : (anyF tv T (atoF tv T e) st (skp tv T (p + 1))).1 = true ∧ sgn tv T (anyF tv T (atoF tv T e) st (skp tv T (p + 1))).2.2 41
        · rw [if_pos c2]
          have g1 := gr_lis (w := kOr) (v := nI 1015) (by decide) (gr_lis (w := kAnd) (v := nI 1014) (by decide) ih) st _ hs.2 c2.1
          have hs2 := skp_ge (tv := tv) (p := (anyF tv T (atoF tv T e) st (skp tv T (p + 1))).2.2 + 1) (T := T) c2.2.1
          have g1a : (anyF tv T (atoF tv T e) st (skp tv T (p + 1))).2.1.2 + skp tv T (p + 1) ≤ st.2 + (anyF tv T (atoF tv T e) st (skp tv T (p + 1))).2.2 := g1.1
          exact ⟨by show (anyF tv T (atoF tv T e) st (skp tv T (p + 1))).2.1.2 + p ≤ st.2 + skp tv T _; omega, hs2.2⟩
        · rw [if_neg c2] at h; exact absurd (show false = true from h) (by decide)
      · rw [if_neg c1] at h ⊢
        exact gr_bas st p hp h
/-- a sum, as far as it is read -/
def SuI (T : Nat) (tv : Nat → Nat) (I : Mem) (dp : Nat) (rq : Re) (f i : Nat) (s2 : Sz) (J : Mem) : Prop := LfJ I J ∧ LwS J s2 dp ∧ ∃ p z, p ≤ T ∧ J 318 10 = nI p ∧ skp tv T p = z ∧ sumK tv T f i s2 z = rq ∧ T ≤ z + f ∧ s2.2 + 1 ≤ z

theorem par_t {T dp q : Nat} {tv : Nat → Nat} {I J : Mem} {st : Sz} (h : LrJ T tv I dp (parR tv T st q) J) (hb : (parR tv T st q).1 = true) : ∃ s2 z, parF tv T st q = some (s2, z) ∧ LwS J s2 dp ∧ ∃ p, p ≤ T ∧ J 318 10 = nI p ∧ skp tv T p = z := by
  cases hP : parF tv T st q with
  | none => rw [parR_n hP] at hb; exact absurd (show false = true from hb) (by decide)
  | some x =>
    obtain ⟨s2, z⟩ := x
    rw [parR_s hP] at h
    exact ⟨s2, z, rfl, h.2.2.2.1 rfl⟩
theorem par_f {T dp q : Nat} {tv : Nat → Nat} {I J : Mem} {st : Sz} (h : LrJ T tv I dp (parR tv T st q) J) (hb : ¬ (parR tv T st q).1 = true) : parF tv T st q = none ∧ LrJ T tv I dp (false, st, q) J := by
  cases hP : parF tv T st q with
  | none => rw [parR_n hP] at h; exact ⟨rfl, h⟩
  | some x => obtain ⟨s2, z⟩ := x; rw [parR_s hP] at hb; exact absurd rfl hb
theorem add_p {i : Nat} {st : Sz} : addS (i + 1) st = putS st (nI 1011) := if_pos (by omega)

theorem m_readSum {d : Nat} {K : Nat → Nat × Nat} {I : Nat → Nat → Int32} {L : Nat → Nat → Int64} {R : Nat → Nat → Option Nat} {n s : Nat} {Q : Lo → Lm → Prop} {T p dp : Nat} {tv : Nat → Nat} {st : Sz} (hT : TK K R n) (hR : RfI I T tv) (hp : p ≤ T) (h10 : I 318 10 = nI p) (hS : SS K I R) (hlw : LwS I st dp) (hg : st.2 + 1 ≤ skp tv T p) (kk : ∀ J, LrJ T tv I dp (sumP tv T st (skp tv T p)) J → Q (.inl (some (.int (if (sumP tv T st (skp tv T p)).1 = true then nI 1 else nI 0)))) (K, J, L, R, n, s)) : Ok (d + 6) 250 [.ref 318] (K, I, L, R, n, s) Q := by
  obtain ⟨-, -, hn⟩ := id hT
  have hT4 := hR.2.1
  refine Ok.enter (F := F_250) (ls := [.ref 318]) rfl rfl ?_
  refine wp_aload0 (pc' := 1) rfl rfl ?_
  refine wp_callV1 (pc' := 4) rfl rfl rfl rfl rfl (by first | exact TK.k1 hT rfl | exact TK.kk hT rfl | exact TK.r hT rfl | assumption) rfl rfl ?_
  refine m_readPart hT hR hp h10 hS hlw hg (fun J1 hJ1 => ?_)
  obtain ⟨q, hq⟩ : ∃ q, skp tv T p = q := ⟨_, rfl⟩
  have hqT := (skp_ge (tv := tv) hp).2
  rw [hq] at hqT hJ1 hg kk ⊢
  obtain ⟨rq, hrq⟩ : ∃ r, sumP tv T st q = r := ⟨_, rfl⟩
  refine Cont.v ?_
  first | refine wp_ifneB (pc' := 7) rfl rfl ?_ ?_ | refine wp_ifne (pc' := 7) rfl rfl ?_ ?_
  · intro h4
    obtain ⟨s1, z1, hP1, hLw1, p1, hp1, hJ1p, hz1⟩ := par_t hJ1 h4
    have hgr1 := parF_gr hqT hP1
    have lp9 : ∀ r (f i : Nat) (s2 : Sz) (J : Mem), f + 1 ≤ r → SuI T tv I dp rq f i s2 J → WP (d + 5) F_250 9 [.ref 318] [] (K, J, L, R, n, s) Q := by
      intro r; induction r with
      | zero =>
        intro f i s2 J hi hv0
        exact absurd hi (by omega)
      | succ r ih =>
        intro f i s2 J hi hv0
        skip
        refine wp_aload0 (pc' := 10) rfl rfl ?_
        refine wp_bipush (v := nI 43) (pc' := 12) rfl rfl rfl ?_
        refine wp_callV2 (pc' := 15) rfl rfl rfl rfl rfl (by first | exact TK.k1 hT rfl | exact TK.kk hT rfl | exact TK.r hT rfl | assumption) rfl rfl ?_
        obtain ⟨hLf, hLw, p2, z, hp2, hJp, hz, hk, hTz, hs2⟩ := hv0
        have hRJ := lf_rd hLf hR
        refine m_signJ (c := 43) hT hRJ hp2 hJp (by decide) (fun J2 hJ2 => ?_)
        have hzT := (skp_ge (tv := tv) hp2).2
        have hzz := skp_sk (tv := tv) hp2
        rw [hz] at hJ2 hzT hzz ⊢
        refine Cont.v ?_
        first | refine wp_ifeqB (pc' := 18) rfl rfl ?_ ?_ | refine wp_ifeq (pc' := 18) rfl rfl ?_ ?_
        · intro h15
          refine wp_iconst (v := nI 1) (pc' := 38) rfl rfl rfl ?_
          refine wp_iret rfl rfl (by first | rfl | exact nar_if) ?_
          rw [if_neg h15] at hJ2
          have e : rq = (true, s2, z) := by rw [← hk]; unfold sumK; rw [if_neg h15]
          rw [show sumP tv T st q = (true, s2, z) from hrq.trans e] at kk
          exact kk J2 (lr_t (lf_t hLf (lf_tk hJ2)) (lw_tk hJ2 hLw) hzT hJ2.2.2.1 hzz)
        · intro h15
          refine wp_aload0 (pc' := 19) rfl rfl ?_
          refine wp_callV1 (pc' := 22) rfl rfl rfl rfl rfl (by first | exact TK.k1 hT rfl | exact TK.kk hT rfl | exact TK.r hT rfl | assumption) rfl rfl ?_
          rw [if_pos h15] at hJ2
          refine m_readPart (dp := dp) (st := s2) hT (tk_rd hJ2 hRJ) (show z + 1 ≤ T from h15.1) hJ2.2.2.1 (tk_ss hJ2 (lf_ss hLf hS)) (lw_tk hJ2 hLw) (by have := (skp_ge (tv := tv) (T := T) (p := z + 1) h15.1).1; omega) (fun J3 hJ3 => ?_)
          refine Cont.v ?_
          first | refine wp_ifneB (pc' := 25) rfl rfl ?_ ?_ | refine wp_ifne (pc' := 25) rfl rfl ?_ ?_
          · intro h22
            refine wp_aload0 (pc' := 28) rfl rfl ?_
            refine wp_bipush (v := nI 11) (pc' := 30) rfl rfl rfl ?_
            refine wp_iconst (v := nI 0) (pc' := 31) rfl rfl rfl ?_
            refine wp_callV3 (pc' := 34) rfl rfl rfl rfl rfl (by first | exact TK.k1 hT rfl | exact TK.kk hT rfl | exact TK.r hT rfl | assumption) rfl rfl ?_
            obtain ⟨s3, z3, hP3, hJ3t⟩ := par_t hJ3 h22
            obtain ⟨hLw3, p3, hp3, hJ3p, hz3⟩ := hJ3t
            have hgr := parF_gr (skp_ge (tv := tv) (T := T) (p := z + 1) h15.1).2 hP3
            have hsk1 := (skp_ge (tv := tv) (T := T) (p := z + 1) h15.1).1
            have hT4 := hR.2.1
            refine m_emits (z := s3.2) hT hLw3.2.1 (by omega) (fun J4 hJ4 => ?_)
            refine Cont.u ?_
            refine wp_goto rfl ?_
            exact WP.cg (ih (f - 1) (i + 1) (putS s3 (nI 1011)) J4 (by have := h15.1; omega) ⟨lf_t hLf (lf_t (lf_tk hJ2) (lf_t (lf_lr hJ3) (lf_em hJ4))), (lw_em hLw3 (by omega) (v := nI 1011) hJ4).1, p3, z3, hp3, by rw [hJ4.2.2.2.2.1 10 (by decide)]; exact hJ3p, hz3, by rw [← hk, ← add_p (i := i)]; unfold sumK; rw [if_pos h15]; obtain ⟨f2, rfl⟩ : ∃ f2, f = f2 + 1 := ⟨f - 1, by have := h15.1; omega⟩; rw [sumF_s hP3]; rfl, by have := h15.1; omega, by have := putS_1 (st := s3) (v := nI 1011); omega⟩) (lC1 rfl) rfl (by rfl)
          · intro h22
            refine wp_iconst (v := nI 0) (pc' := 26) rfl rfl rfl ?_
            refine wp_iret rfl rfl (by first | rfl | exact nar_if) ?_
            have hpf := par_f hJ3 h22
            have e : rq = (false, s2, skp tv T (z + 1)) := by rw [← hk]; unfold sumK; rw [if_pos h15]; obtain ⟨f2, rfl⟩ : ∃ f2, f = f2 + 1 := ⟨f - 1, by have := h15.1; omega⟩; rw [sumF_n hpf.1]
            rw [show sumP tv T st q = (false, s2, skp tv T (z + 1)) from hrq.trans e] at kk
            exact kk J3 (lr_x (lf_t hLf (lf_tk hJ2)) hpf.2)
    exact WP.cg (lp9 400 399 0 s1 J1 (by omega) ⟨lf_lr hJ1, hLw1, p1, z1, hp1, hJ1p, hz1, by rw [← hrq]; show _ = sumF tv T 400 0 st q; rw [sumF_s hP1]; rfl, by omega, by omega⟩) (lC1 rfl) rfl (by rfl)
  · intro h4
    refine wp_iconst (v := nI 0) (pc' := 8) rfl rfl rfl ?_
    refine wp_iret rfl rfl (by first | rfl | exact nar_if) ?_
    have hpf := par_f hJ1 h4
    have e : rq = (false, st, q) := by rw [← hrq]; show sumF tv T 400 0 st q = _; rw [sumF_n hpf.1]
    rw [show sumP tv T st q = (false, st, q) from hrq.trans e] at kk
    exact kk J1 hpf.2
