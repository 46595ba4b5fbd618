/-! A law's text in the reference: conditions -/
/-- what a reading method of the reference does -/
def RdX (K : Nat → Nat × Nat) (L : Nat → Nat → Int64) (R : Nat → Nat → Option Nat) (n s T : Nat) (tv : Nat → Nat) (M dp g : Nat) (F : Sz → Nat → Re) : Prop := ∀ (d : Nat) (I : Mem) (st : Sz) (p : Nat) (Q : Lo → Lm → Prop), RfI I T tv → SS K I R → p ≤ T → I 318 10 = nI p → LwS I st dp → st.2 + 1 ≤ skp tv T p →
  (∀ J, LrJ T tv I dp (F st (skp tv T p)) J → Q (.inl (some (.int (if (F st (skp tv T p)).1 = true then nI 1 else nI 0)))) (K, J, L, R, n, s)) → Ok (d + g) M [.ref 318] (K, I, L, R, n, s) Q
theorem RdX_up {K : Nat → Nat × Nat} {L : Nat → Nat → Int64} {R : Nat → Nat → Option Nat} {n s T M dp g : Nat} {tv : Nat → Nat} {F : Sz → Nat → Re} (h : RdX K L R n s T tv M dp g F) (k : Nat) : RdX K L R n s T tv M dp (g + k) F := by
  intro d I st p Q hR hS hp h10 hlw hg kk
  exact Ok.mono (by omega) (h d I st p Q hR hS hp h10 hlw hg kk) (fun _ _ q => q)
/-- a list of conditions, as far as it is read -/
def LsI (T : Nat) (tv : Nat → Nat) (I : Mem) (dp : Nat) (rq : Re) (w : List Nat) (v : Int32) (A : Sz → Nat → Re) (f : Nat) (s2 : Sz) (J : Mem) : Prop := LfJ I J ∧ LwS J s2 dp ∧ ∃ p z, p ≤ T ∧ J 318 10 = nI p ∧ skp tv T p = z ∧ lisL tv T w v A f s2 z = rq ∧ T ≤ z + f ∧ s2.2 + 1 ≤ z
theorem lis_n {tv : Nat → Nat} {T : Nat} {w : List Nat} {v : Int32} {A : Sz → Nat → Re} {f z : Nat} {st : Sz} (h : ¬ wdB tv T z w = true) : lisL tv T w v A f st z = (true, st, z) := by
  cases f with
  | zero => rfl
  | succ f => rw [lisL, if_neg h]
theorem lis_f {tv : Nat → Nat} {T : Nat} {w : List Nat} {v : Int32} {A : Sz → Nat → Re} {f z : Nat} {st : Sz} {r : Re} (h : wdB tv T z w = true) (hf : 0 < f) (hr : A st (af tv T z) = r) (h2 : ¬ r.1 = true) : lisL tv T w v A f st z = r := by
  obtain ⟨g, rfl⟩ : ∃ g, f = g + 1 := ⟨f - 1, by omega⟩
  rw [lisL, if_pos h, hr, if_neg h2]
theorem lis_t {tv : Nat → Nat} {T : Nat} {w : List Nat} {v : Int32} {A : Sz → Nat → Re} {f z : Nat} {st : Sz} {r : Re} (h : wdB tv T z w = true) (hf : 0 < f) (hr : A st (af tv T z) = r) (h2 : r.1 = true) : lisL tv T w v A f st z = lisL tv T w v A (f - 1) (putS r.2.1 v) r.2.2 := by
  obtain ⟨g, rfl⟩ : ∃ g, f = g + 1 := ⟨f - 1, by omega⟩
  rw [lisL, if_pos h, hr, if_pos h2]; rfl
theorem bas_sg {tv : Nat → Nat} {T q c : Nat} {st : Sz} (h : sgn tv T q c) (hc : c < 48) : basF tv T st q = (false, st, q) := by
  have hl : letN tv T q = 0 := letN_n h.1 (by have := h.2; omega)
  unfold basF
  rw [wd_0 (by decide) hl]
  dsimp only
  have hP : parF tv T st q = none := by
    unfold parF
    rw [if_neg (fun z => by have := z.2.1; have := h.2; omega), wd_0 (by decide) hl]
  have hs : sumP tv T st q = (false, st, q) := sumF_n hP
  unfold cmpF
  rw [hs, if_neg Bool.false_ne_true]
theorem bas_nt {tv : Nat → Nat} {T q : Nat} {st : Sz} (h : wdB tv T q kNot = true) : basF tv T st q = (false, st, q) := by
  have hl : letN tv T q = 3 := wdB_len h
  have h1 : tv q = 110 := by
    rw [Bool.and_eq_true] at h
    have := h.2
    unfold kNot eqW at this
    rw [Bool.and_eq_true] at this
    exact of_decide_eq_true this.1
  have hn : ∀ w : List Nat, w.length ≠ 3 → ¬ wdB tv T q w = true := fun w hw z => hw ((wdB_len z).symm.trans hl)
  have hsun : ¬ wdB tv T q [115, 117, 110] = true := fun z => by
    rw [Bool.and_eq_true] at z
    have := z.2
    unfold eqW at this
    rw [Bool.and_eq_true] at this
    have := of_decide_eq_true this.1
    omega
  have hf : wd tv T q facW = none := by
    unfold wd facW
    rw [pick_f (hn _ (by decide)), pick_f (hn _ (by decide)), pick_f (hn _ (by decide))]; rfl
  have hp : wd tv T q parW = none := by
    unfold wd parW
    rw [pick_f (hn _ (by decide)), pick_f (hn _ (by decide)), pick_f (hn _ (by decide)), pick_f (hn _ (by decide)), pick_f (hn _ (by decide)), pick_f (hn _ (by decide)), pick_f hsun]; rfl
  unfold basF
  rw [hf]
  dsimp only
  have hP : parF tv T st q = none := by
    unfold parF
    rw [if_neg (fun z => by have := z.2.2; omega), hp]
  have hs : sumP tv T st q = (false, st, q) := sumF_n hP
  unfold cmpF
  rw [hs, if_neg Bool.false_ne_true]
theorem not_sg {tv : Nat → Nat} {T q c : Nat} (h : sgn tv T q c) (hc : c < 97) : ¬ wdB tv T q kNot = true := fun z => by
  have hl : letN tv T q = 0 := letN_n h.1 (by have := h.2; omega)
  have hl2 : letN tv T q = 3 := wdB_len z
  omega

theorem m_evy {K : Nat → Nat × Nat} {L : Nat → Nat → Int64} {R : Nat → Nat → Option Nat} {n s : Nat} {T dp g : Nat} {tv : Nat → Nat} {A : Sz → Nat → Re} (hT : TK K R n) (hG : Gr T A) (hM : Mo T A) (hg4 : 4 ≤ g) (hA : RdX K L R n s T tv 246 dp g A) : RdX K L R n s T tv 245 dp (g + 1) (evyF tv T A) := by
  intro d I st p Q hR hS hp h10 hlw hg kk
  obtain ⟨-, -, hn⟩ := id hT
  obtain ⟨g4, rfl⟩ : ∃ x, g = x + 4 := ⟨g - 4, by omega⟩
  refine Ok.enter (F := F_245) (ls := [.ref 318]) rfl rfl ?_
  refine wp_aload0 (pc' := 1) rfl rfl ?_
  refine wp_callV1 (pc' := 4) rfl rfl rfl rfl rfl (by first | exact TK.k1 hT rfl | exact TK.kk hT rfl | exact TK.r hT rfl | assumption) rfl rfl ?_
  refine hA _ _ _ _ _ hR hS hp h10 hlw hg (fun J1 hJ1 => ?_)
  obtain ⟨q, hq⟩ : ∃ q, skp tv T p = q := ⟨_, rfl⟩
  have hqT := (skp_ge (tv := tv) hp).2
  rw [hq] at hqT hJ1 hg kk ⊢
  obtain ⟨r1, hr1⟩ : ∃ r, A st q = r := ⟨_, rfl⟩
  rw [hr1] at hJ1 ⊢
  obtain ⟨rq, hrq⟩ : ∃ r, evyF tv T A st q = r := ⟨_, rfl⟩
  refine Cont.v ?_
  first | refine wp_ifneB (pc' := 7) rfl rfl ?_ ?_ | refine wp_ifne (pc' := 7) rfl rfl ?_ ?_
  · intro h4
    obtain ⟨hLw1, p1, hp1, hJ1p, hz1⟩ := hJ1.2.2.2.1 h4
    have hGr1 := hG st q hqT (by rw [hr1]; exact h4)
    rw [hr1] at hGr1
    have hT4 := hR.2.1
    have lp9 : ∀ r (f : Nat) (s2 : Sz) (J : Mem), f + 1 ≤ r → LsI T tv I dp rq kAnd (nI 1014) A f s2 J → WP (d + (g4 + 4)) F_245 9 [.ref 318] [] (K, J, L, R, n, s) Q := by
      intro r; induction r with
      | zero =>
        intro f s2 J hi hv0
        exact absurd hi (by omega)
      | succ r ih =>
        intro f s2 J hi hv0
        refine wp_aload0 (pc' := 10) rfl rfl ?_
        refine wp_pool (v := .ref (lmB + 110)) (pc' := 13) rfl rfl rfl rfl rfl ?_
        refine wp_callV2 (pc' := 16) rfl rfl rfl rfl rfl (by first | exact TK.k1 hT rfl | exact TK.kk hT rfl | exact TK.r hT rfl | assumption) rfl rfl ?_
        obtain ⟨hLf, hLw, p2, z, hp2, hJp, hz, hk, hTz, hs2⟩ := hv0
        have hRJ := lf_rd hLf hR
        refine m_passesJ (w := 55) kAnd hT hRJ hp2 hJp (lf_ss hLf hS) (by decide) (by decide) (fun J2 hJ2 => ?_)
        have hzT := (skp_ge (tv := tv) hp2).2
        have hzz := skp_sk (tv := tv) hp2
        rw [hz] at hJ2 hzT hzz ⊢
        refine Cont.v ?_
        first | refine wp_ifeqB (pc' := 19) rfl rfl ?_ ?_ | refine wp_ifeq (pc' := 19) rfl rfl ?_ ?_
        · intro h16
          refine wp_iconst (v := nI 1) (pc' := 39) rfl rfl rfl ?_
          refine wp_iret rfl rfl (by first | rfl | exact nar_if) ?_
          rw [if_neg h16] at hJ2
          exact re_t (r := (true, s2, z)) rfl (hrq.trans (by rw [← hk, lis_n h16])) kk (lr_t (lf_t hLf (lf_tk hJ2)) (lw_tk hJ2 hLw) hzT hJ2.2.2.1 hzz)
        · intro h16
          refine wp_aload0 (pc' := 20) rfl rfl ?_
          refine wp_callV1 (pc' := 23) rfl rfl rfl rfl rfl (by first | exact TK.k1 hT rfl | exact TK.kk hT rfl | exact TK.r hT rfl | assumption) rfl rfl ?_
          rw [if_pos h16] at hJ2
          have hlz : letN tv T z = kAnd.length := wdB_len h16
          rw [show kAnd.length = 3 from rfl] at hlz
          have hlT := letN_le (tv := tv) (T := T) (p := z)
          have haf := af_gt (tv := tv) hzT
          refine hA _ _ s2 (z + letN tv T z) _ (tk_rd hJ2 hRJ) (tk_ss hJ2 (lf_ss hLf hS)) (by omega) hJ2.2.2.1 (lw_tk hJ2 hLw) (show s2.2 + 1 ≤ af tv T z by omega) (fun J3 hJ3 => ?_)
          obtain ⟨r3, hr3⟩ : ∃ r, A s2 (af tv T z) = r := ⟨_, rfl⟩
          rw [show A s2 (skp tv T (z + letN tv T z)) = r3 from hr3] at hJ3 ⊢
          refine Cont.v ?_
          first | refine wp_ifneB (pc' := 26) rfl rfl ?_ ?_ | refine wp_ifne (pc' := 26) rfl rfl ?_ ?_
          · intro h23
            refine wp_aload0 (pc' := 29) rfl rfl ?_
            refine wp_bipush (v := nI 15) (pc' := 31) rfl rfl rfl ?_
            refine wp_iconst (v := nI 0) (pc' := 32) rfl rfl rfl ?_
            refine wp_callV3 (pc' := 35) rfl rfl rfl rfl rfl (by first | exact TK.k1 hT rfl | exact TK.kk hT rfl | exact TK.r hT rfl | assumption) rfl rfl ?_
            obtain ⟨hLw3, p3, hp3, hJ3p, hz3⟩ := hJ3.2.2.2.1 h23
            have hGr := hG s2 (af tv T z) haf.2 (by rw [hr3]; exact h23)
            have hMo := hM s2 (af tv T z) haf.2 (by rw [hr3]; exact h23)
            rw [hr3] at hGr hMo
            have hT4 := hR.2.1
            refine m_emits (z := r3.2.1.2) hT hLw3.2.1 (by omega) (fun J4 hJ4 => ?_)
            refine Cont.u ?_
            refine wp_goto rfl ?_
            exact WP.cg (ih (f - 1) (putS r3.2.1 (nI 1014)) J4 (by omega) ⟨lf_t hLf (lf_t (lf_tk hJ2) (lf_t (lf_lr hJ3) (lf_em hJ4))), (lw_em hLw3 (by omega) (v := nI 1014) hJ4).1, p3, r3.2.2, hp3, by rw [hJ4.2.2.2.2.1 10 (by decide)]; exact hJ3p, hz3, by rw [← hk, lis_t h16 (by omega) hr3 h23], by omega, by have := putS_1 (st := r3.2.1) (v := nI 1014); omega⟩) (lC1 rfl) rfl (by rfl)
          · intro h23
            refine wp_iconst (v := nI 0) (pc' := 27) rfl rfl rfl ?_
            refine wp_iret rfl rfl (by first | rfl | exact nar_if) ?_
            exact re_f h23 (hrq.trans (by rw [← hk, lis_f h16 (by omega) hr3 h23])) kk (lr_x (lf_t hLf (lf_tk hJ2)) hJ3)
    exact WP.cg (lp9 401 400 r1.2.1 J1 (by omega) ⟨lf_lr hJ1, hLw1, p1, r1.2.2, hp1, hJ1p, hz1, by rw [← hrq]; unfold evyF lisF; rw [hr1, if_pos h4], by omega, by omega⟩) (lC1 rfl) rfl (by rfl)
  · intro h4
    refine wp_iconst (v := nI 0) (pc' := 8) rfl rfl rfl ?_
    refine wp_iret rfl rfl (by first | rfl | exact nar_if) ?_
    exact re_f h4 (by unfold evyF lisF; rw [hr1, if_neg h4]) kk hJ1
theorem m_any {K : Nat → Nat × Nat} {L : Nat → Nat → Int64} {R : Nat → Nat → Option Nat} {n s : Nat} {T dp g : Nat} {tv : Nat → Nat} {A0 : Sz → Nat → Re} (hT : TK K R n) (hG0 : Gr T A0) (hM0 : Mo T A0) (hg4 : 4 ≤ g) (hA0 : RdX K L R n s T tv 245 dp g (evyF tv T A0)) : RdX K L R n s T tv 244 dp (g + 1) (anyF tv T A0) := by
  obtain ⟨A, hAe⟩ : ∃ A, evyF tv T A0 = A := ⟨_, rfl⟩
  have hG : Gr T A := by rw [← hAe]; exact gr_lis (by decide) hG0
  have hM : Mo T A := by rw [← hAe]; exact mo_lis hM0
  have hA : RdX K L R n s T tv 245 dp g A := by rw [← hAe]; exact hA0
  intro d I st p Q hR hS hp h10 hlw hg kk
  obtain ⟨-, -, hn⟩ := id hT
  obtain ⟨g4, rfl⟩ : ∃ x, g = x + 4 := ⟨g - 4, by omega⟩
  refine Ok.enter (F := F_244) (ls := [.ref 318]) rfl rfl ?_
  refine wp_aload0 (pc' := 1) rfl rfl ?_
  refine wp_callV1 (pc' := 4) rfl rfl rfl rfl rfl (by first | exact TK.k1 hT rfl | exact TK.kk hT rfl | exact TK.r hT rfl | assumption) rfl rfl ?_
  refine hA _ _ _ _ _ hR hS hp h10 hlw hg (fun J1 hJ1 => ?_)
  obtain ⟨q, hq⟩ : ∃ q, skp tv T p = q := ⟨_, rfl⟩
  have hqT := (skp_ge (tv := tv) hp).2
  rw [hq] at hqT hJ1 hg kk ⊢
  obtain ⟨r1, hr1⟩ : ∃ r, A st q = r := ⟨_, rfl⟩
  rw [hr1] at hJ1 ⊢
  obtain ⟨rq, hrq⟩ : ∃ r, anyF tv T A0 st q = r := ⟨_, rfl⟩
  refine Cont.v ?_
  first | refine wp_ifneB (pc' := 7) rfl rfl ?_ ?_ | refine wp_ifne (pc' := 7) rfl rfl ?_ ?_
  · intro h4
    obtain ⟨hLw1, p1, hp1, hJ1p, hz1⟩ := hJ1.2.2.2.1 h4
    have hGr1 := hG st q hqT (by rw [hr1]; exact h4)
    rw [hr1] at hGr1
    have hT4 := hR.2.1
    have lp9 : ∀ r (f : Nat) (s2 : Sz) (J : Mem), f + 1 ≤ r → LsI T tv I dp rq kOr (nI 1015) A f s2 J → WP (d + (g4 + 4)) F_244 9 [.ref 318] [] (K, J, L, R, n, s) Q := by
      intro r; induction r with
      | zero =>
        intro f s2 J hi hv0
        exact absurd hi (by omega)
      | succ r ih =>
        intro f s2 J hi hv0
        refine wp_aload0 (pc' := 10) rfl rfl ?_
        refine wp_pool (v := .ref (lmB + 112)) (pc' := 13) rfl rfl rfl rfl rfl ?_
        refine wp_callV2 (pc' := 16) rfl rfl rfl rfl rfl (by first | exact TK.k1 hT rfl | exact TK.kk hT rfl | exact TK.r hT rfl | assumption) rfl rfl ?_
        obtain ⟨hLf, hLw, p2, z, hp2, hJp, hz, hk, hTz, hs2⟩ := hv0
        have hRJ := lf_rd hLf hR
        refine m_passesJ (w := 56) kOr hT hRJ hp2 hJp (lf_ss hLf hS) (by decide) (by decide) (fun J2 hJ2 => ?_)
        have hzT := (skp_ge (tv := tv) hp2).2
        have hzz := skp_sk (tv := tv) hp2
        rw [hz] at hJ2 hzT hzz ⊢
        refine Cont.v ?_
        first | refine wp_ifeqB (pc' := 19) rfl rfl ?_ ?_ | refine wp_ifeq (pc' := 19) rfl rfl ?_ ?_
        · intro h16
          refine wp_iconst (v := nI 1) (pc' := 39) rfl rfl rfl ?_
          refine wp_iret rfl rfl (by first | rfl | exact nar_if) ?_
          rw [if_neg h16] at hJ2
          exact re_t (r := (true, s2, z)) rfl (hrq.trans (by rw [← hk, lis_n h16])) kk (lr_t (lf_t hLf (lf_tk hJ2)) (lw_tk hJ2 hLw) hzT hJ2.2.2.1 hzz)
        · intro h16
          refine wp_aload0 (pc' := 20) rfl rfl ?_
          refine wp_callV1 (pc' := 23) rfl rfl rfl rfl rfl (by first | exact TK.k1 hT rfl | exact TK.kk hT rfl | exact TK.r hT rfl | assumption) rfl rfl ?_
          rw [if_pos h16] at hJ2
          have hlz : letN tv T z = kOr.length := wdB_len h16
          rw [show kOr.length = 2 from rfl] at hlz
          have hlT := letN_le (tv := tv) (T := T) (p := z)
          have haf := af_gt (tv := tv) hzT
          refine hA _ _ s2 (z + letN tv T z) _ (tk_rd hJ2 hRJ) (tk_ss hJ2 (lf_ss hLf hS)) (by omega) hJ2.2.2.1 (lw_tk hJ2 hLw) (show s2.2 + 1 ≤ af tv T z by omega) (fun J3 hJ3 => ?_)
          obtain ⟨r3, hr3⟩ : ∃ r, A s2 (af tv T z) = r := ⟨_, rfl⟩
          rw [show A s2 (skp tv T (z + letN tv T z)) = r3 from hr3] at hJ3 ⊢
          refine Cont.v ?_
          first | refine wp_ifneB (pc' := 26) rfl rfl ?_ ?_ | refine wp_ifne (pc' := 26) rfl rfl ?_ ?_
          · intro h23
            refine wp_aload0 (pc' := 29) rfl rfl ?_
            refine wp_bipush (v := nI 16) (pc' := 31) rfl rfl rfl ?_
            refine wp_iconst (v := nI 0) (pc' := 32) rfl rfl rfl ?_
            refine wp_callV3 (pc' := 35) rfl rfl rfl rfl rfl (by first | exact TK.k1 hT rfl | exact TK.kk hT rfl | exact TK.r hT rfl | assumption) rfl rfl ?_
            obtain ⟨hLw3, p3, hp3, hJ3p, hz3⟩ := hJ3.2.2.2.1 h23
            have hGr := hG s2 (af tv T z) haf.2 (by rw [hr3]; exact h23)
            have hMo := hM s2 (af tv T z) haf.2 (by rw [hr3]; exact h23)
            rw [hr3] at hGr hMo
            have hT4 := hR.2.1
            refine m_emits (z := r3.2.1.2) hT hLw3.2.1 (by omega) (fun J4 hJ4 => ?_)
            refine Cont.u ?_
            refine wp_goto rfl ?_
            exact WP.cg (ih (f - 1) (putS r3.2.1 (nI 1015)) J4 (by omega) ⟨lf_t hLf (lf_t (lf_tk hJ2) (lf_t (lf_lr hJ3) (lf_em hJ4))), (lw_em hLw3 (by omega) (v := nI 1015) hJ4).1, p3, r3.2.2, hp3, by rw [hJ4.2.2.2.2.1 10 (by decide)]; exact hJ3p, hz3, by rw [← hk, lis_t h16 (by omega) hr3 h23], by omega, by have := putS_1 (st := r3.2.1) (v := nI 1015); omega⟩) (lC1 rfl) rfl (by rfl)
          · intro h23
            refine wp_iconst (v := nI 0) (pc' := 27) rfl rfl rfl ?_
            refine wp_iret rfl rfl (by first | rfl | exact nar_if) ?_
            exact re_f h23 (hrq.trans (by rw [← hk, lis_f h16 (by omega) hr3 h23])) kk (lr_x (lf_t hLf (lf_tk hJ2)) hJ3)
    exact WP.cg (lp9 401 400 r1.2.1 J1 (by omega) ⟨lf_lr hJ1, hLw1, p1, r1.2.2, hp1, hJ1p, hz1, by rw [← hrq]; unfold anyF lisF; rw [hAe, hr1, if_pos h4], by omega, by omega⟩) (lC1 rfl) rfl (by rfl)
  · intro h4
    refine wp_iconst (v := nI 0) (pc' := 8) rfl rfl rfl ?_
    refine wp_iret rfl rfl (by first | rfl | exact nar_if) ?_
    exact re_f h4 (by unfold anyF lisF; rw [hAe, hr1, if_neg h4]) kk hJ1
