/-! A law's text in the reference: atoms -/
/-- a reader's place does not go back -/
def Mo (T : Nat) (F : Sz → Nat → Re) : Prop := ∀ st p, p ≤ T → (F st p).1 = true → p ≤ (F st p).2.2 ∧ (F st p).2.2 ≤ T
theorem mo_sum {tv : Nat → Nat} {T : Nat} : Mo T (sumP tv T) := fun st p hp h => by
  have := sumF_gr 400 0 st p hp h
  exact ⟨Nat.le_of_lt this.2.2, this.2.1⟩
theorem mo_cmp {tv : Nat → Nat} {T : Nat} : Mo T (cmpF tv T) := fun st p hp h => by
  unfold cmpF at h ⊢
  by_cases c : (sumP tv T st p).1 = true
  · have g1 := mo_sum st p hp c
    rw [if_pos c] at h ⊢
    generalize sumP tv T st p = r1 at *
    by_cases c1 : sgn tv T r1.2.2 60
    · rw [if_pos c1] at h ⊢
      have hs := skp_ge (tv := tv) (p := r1.2.2 + 1) (T := T) c1.1
      by_cases c2 : (sumP tv T r1.2.1 (skp tv T (r1.2.2 + 1))).1 = true
      · have g2 := mo_sum r1.2.1 _ hs.2 c2
        rw [if_pos c2]
        refine ⟨?_, g2.2⟩
        show p ≤ (sumP tv T r1.2.1 (skp tv T (r1.2.2 + 1))).2.2
        omega
      · rw [if_neg c2] at h; exact absurd h c2
    · rw [if_neg c1] at h ⊢
      by_cases c3 : sgn tv T r1.2.2 62
      · rw [if_pos c3] at h ⊢
        have hs := skp_ge (tv := tv) (p := r1.2.2 + 1) (T := T) c3.1
        by_cases c2 : (sumP tv T r1.2.1 (skp tv T (r1.2.2 + 1))).1 = true
        · have g2 := mo_sum r1.2.1 _ hs.2 c2
          rw [if_pos c2]
          refine ⟨?_, g2.2⟩
          show p ≤ (sumP tv T r1.2.1 (skp tv T (r1.2.2 + 1))).2.2
          omega
        · rw [if_neg c2] at h; exact absurd h c2
      · rw [if_neg c3] at h; exact absurd (show false = true from h) (by decide)
  · rw [if_neg c] at h; exact absurd h c
theorem mo_bas {tv : Nat → Nat} {T : Nat} : Mo T (basF tv T) := fun st p hp h => by
  unfold basF at h ⊢
  cases hk : wd tv T p facW with
  | some k =>
    have := af_gt (tv := tv) hp
    exact ⟨by show p ≤ af tv T p; omega, this.2⟩
  | none => rw [hk] at h; exact mo_cmp st p hp h
theorem mo_lisL {tv : Nat → Nat} {T : Nat} {w : List Nat} {v : Int32} {A : Sz → Nat → Re} (hA : Mo T A) : ∀ f, Mo T (lisL tv T w v A f)
  | 0 => fun st p hp _ => ⟨Nat.le_refl p, hp⟩
  | f + 1 => fun st p hp h => by
    rw [lisL] at h ⊢
    by_cases c : wdB tv T p w = true
    · rw [if_pos c] at h ⊢
      have ha := af_gt (tv := tv) hp
      by_cases c2 : (A st (af tv T p)).1 = true
      · rw [if_pos c2] at h ⊢
        have g1 := hA st _ ha.2 c2
        have g2 := mo_lisL hA f _ _ g1.2 h
        exact ⟨by omega, g2.2⟩
      · rw [if_neg c2] at h; exact absurd h c2
    · rw [if_neg c]; exact ⟨Nat.le_refl p, hp⟩
theorem mo_lis {tv : Nat → Nat} {T : Nat} {w : List Nat} {v : Int32} {A : Sz → Nat → Re} (hA : Mo T A) : Mo T (lisF tv T w v A) := fun st p hp h => by
  unfold lisF at h ⊢
  by_cases c : (A st p).1 = true
  · rw [if_pos c] at h ⊢
    have g1 := hA st p hp c
    have g2 := mo_lisL hA 400 _ _ g1.2 h
    exact ⟨by omega, g2.2⟩
  · rw [if_neg c] at h; exact absurd h c
theorem mo_ato {tv : Nat → Nat} {T : Nat} : ∀ e, Mo T (atoF tv T e)
  | 0 => mo_bas
  | e + 1 => fun st p hp h => by
    have ih := mo_ato (tv := tv) (T := T) e
    unfold atoF at h ⊢
    by_cases c : wdB tv T p kNot = true
    · rw [if_pos c] at h ⊢
      have ha := af_gt (tv := tv) hp
      unfold notF at h ⊢
      by_cases c2 : (atoF tv T e st (af tv T p)).1 = true
      · rw [if_pos c2]
        have g1 := ih st _ ha.2 c2
        exact ⟨by show p ≤ (atoF tv T e st (af tv T p)).2.2; omega, g1.2⟩
      · rw [if_neg c2] at h; exact absurd h c2
    · rw [if_neg c] at h ⊢
      by_cases c1 : sgn tv T p 40
      · rw [if_pos c1] at h ⊢
        have hs := skp_ge (tv := tv) (p := p + 1) (T := T) c1.1
        unfold clsF at h ⊢
        by_cases c2 : (anyF tv T (atoF tv T e) st (skp tv T (p + 1))).1 = true ∧ sgn tv T (anyF tv T (atoF tv T e) st (skp tv T (p + 1))).2.2 41
        · rw [if_pos c2]
          have g1 : skp tv T (p + 1) ≤ (anyF tv T (atoF tv T e) st (skp tv T (p + 1))).2.2 ∧ _ := mo_lis (w := kOr) (v := nI 1015) (mo_lis (w := kAnd) (v := nI 1014) ih) st _ hs.2 c2.1
          have hs2 := skp_ge (tv := tv) (p := (anyF tv T (atoF tv T e) st (skp tv T (p + 1))).2.2 + 1) (T := T) c2.2.1
          exact ⟨by show p ≤ skp tv T ((anyF tv T (atoF tv T e) st (skp tv T (p + 1))).2.2 + 1); omega, hs2.2⟩
        · rw [if_neg c2] at h; exact absurd (show false = true from h) (by decide)
      · rw [if_neg c1] at h ⊢
        exact mo_bas st p hp h
theorem tk_pt {I J : Mem} {p b q : Nat} (h : TkJ I J p b) : TkJ I (up2 J 318 10 (nI q)) q b := ⟨fun a ha => (up2_row ha).trans (h.1 a ha), fun j h1 h2 => by rw [up2_same, if_neg h1]; exact h.2.1 j h1 h2, up2_hit, by rw [up2_same, if_neg (by decide)]; exact h.2.2.2⟩
section
variable {Q : Lo → Lm → Prop} {K : Nat → Nat × Nat} {I J : Mem} {L : Nat → Nat → Int64} {R : Nat → Nat → Option Nat} {n s : Nat} {tv : Nat → Nat} {T dp : Nat} {r r0 : Re}
theorem re_t (h : r.1 = true) (e : r0 = r) (kk : ∀ J, LrJ T tv I dp r0 J → Q (.inl (some (.int (if r0.1 = true then nI 1 else nI 0)))) (K, J, L, R, n, s)) (hJ : LrJ T tv I dp r J) : Q (.inl (some (.int (nI 1)))) (K, J, L, R, n, s) := by
  subst e
  have := kk J hJ
  rw [if_pos h] at this
  exact this
theorem re_f (h : ¬ r.1 = true) (e : r0 = r) (kk : ∀ J, LrJ T tv I dp r0 J → Q (.inl (some (.int (if r0.1 = true then nI 1 else nI 0)))) (K, J, L, R, n, s)) (hJ : LrJ T tv I dp r J) : Q (.inl (some (.int (nI 0)))) (K, J, L, R, n, s) := by
  subst e
  have := kk J hJ
  rw [if_neg h] at this
  exact this
end
theorem lw_tg {I J : Mem} {dp k : Nat} {st : Sz} (hk : k < 3) (g : LwS I st dp) (hz : st.2 < 400) (h : EmJ I J st.2 (nI (7 + k)) (nI 0)) : LwS J (putS st (nI (1007 + k))) dp := by
  have h1 := tk_w ⟨7 + k, by omega⟩
  dsimp only at h1
  rw [show 1000 + (7 + k) = 1007 + k by omega] at h1
  have h2 : EmJ I J st.2 (tk1 (nI (1007 + k))) (tk2 (nI (1007 + k))) := by rw [h1.1, h1.2]; exact h
  exact (lw_em g hz h2).1
theorem lr_tg {T q dp k : Nat} {tv : Nat → Nat} {I J1 J3 : Mem} {st : Sz} (hk : k < 3) (hqT : q + letN tv T q ≤ T) (hJ1 : TkJ I J1 (q + letN tv T q) q) (g : LwS J1 st dp) (hz : st.2 < 400) (hJ3 : EmJ J1 J3 st.2 (nI (7 + k)) (nI 0)) : LrJ T tv I dp (true, putS st (nI (1007 + k)), af tv T q) J3 :=
  lr_t (lf_t (lf_tk hJ1) (lf_em hJ3)) (lw_tg hk g hz hJ3) hqT (by rw [hJ3.2.2.2.2.1 10 (by decide)]; exact hJ1.2.2.1) rfl

theorem m_readTag {d : Nat} {K : Nat → Nat × Nat} {I : Nat → Nat → Int32} {L : Nat → Nat → Int64} {R : Nat → Nat → Option Nat} {n s : Nat} {Q : Lo → Lm → Prop} {T p dp : Nat} {tv : Nat → Nat} {st : Sz} (hT : TK K R n) (hR : RfI I T tv) (hp : p ≤ T) (h10 : I 318 10 = nI p) (hS : SS K I R) (hlw : LwS I st dp) (hg : st.2 + 1 ≤ skp tv T p) (kt : ∀ k J, wd tv T (skp tv T p) facW = some k → LrJ T tv I dp (true, putS st (nI (1007 + k)), af tv T (skp tv T p)) J → Q (.inl (some (.int (nI 1)))) (K, J, L, R, n, s)) (kk : ∀ J, wd tv T (skp tv T p) facW = none → TkJ I J (skp tv T p) (skp tv T p) → Q (.inl (some (.int (nI 0)))) (K, J, L, R, n, s)) : Ok (d + 4) 249 [.ref 318] (K, I, L, R, n, s) Q := by
  obtain ⟨-, -, hn⟩ := id hT
  have hT4 := hR.2.1
  refine Ok.enter (F := F_249) (ls := [.ref 318, lDead]) rfl rfl ?_
  refine wp_aload0 (pc' := 1) rfl rfl ?_
  refine wp_callV1 (pc' := 4) rfl rfl rfl rfl rfl (by first | exact TK.k1 hT rfl | exact TK.kk hT rfl | exact TK.r hT rfl | assumption) rfl rfl ?_
  refine m_lettersTJ hT hR hp h10 (fun J1 hJ1 => ?_)
  obtain ⟨q, hq⟩ : ∃ q, skp tv T p = q := ⟨_, rfl⟩
  have hqT := (skp_ge (tv := tv) hp).2
  have hqq := skp_sk (tv := tv) hp
  have hlT := letN_le (tv := tv) (T := T) (p := q)
  rw [hq] at hJ1 hqT hqq hg kk kt
  have hR1 := tk_rd hJ1 hR
  have hlw1 := lw_tk hJ1 hlw
  refine Cont.u ?_
  refine wp_aload0 (pc' := 5) rfl rfl ?_
  refine wp_pool (v := .ref (lmB + 98)) (pc' := 7) rfl rfl rfl rfl rfl ?_
  refine wp_callV2 (pc' := 10) rfl rfl rfl rfl rfl (by first | exact TK.k1 hT rfl | exact TK.kk hT rfl | exact TK.r hT rfl | assumption) rfl rfl ?_
  refine m_isWordJ (w := 49) (p := q + letN tv T q) (b := q) [100, 114, 97, 105, 110, 101, 100] hT hR1 hJ1.2.2.1 hJ1.2.2.2 (tk_ss hJ1 hS) (by decide) (by decide) (by omega) (by omega) ?_
  rw [wb_wd]
  refine Cont.v ?_
  first | refine wp_ifeqB (pc' := 13) rfl rfl ?_ ?_ | refine wp_ifeq (pc' := 13) rfl rfl ?_ ?_
  · intro h10
    refine wp_aload0 (pc' := 19) rfl rfl ?_
    refine wp_pool (v := .ref (lmB + 86)) (pc' := 21) rfl rfl rfl rfl rfl ?_
    refine wp_callV2 (pc' := 24) rfl rfl rfl rfl rfl (by first | exact TK.k1 hT rfl | exact TK.kk hT rfl | exact TK.r hT rfl | assumption) rfl rfl ?_
    refine m_isWordJ (w := 43) (p := q + letN tv T q) (b := q) [114, 97, 105, 110] hT hR1 hJ1.2.2.1 hJ1.2.2.2 (tk_ss hJ1 hS) (by decide) (by decide) (by omega) (by omega) ?_
    rw [wb_wd]
    refine Cont.v ?_
    first | refine wp_ifeqB (pc' := 27) rfl rfl ?_ ?_ | refine wp_ifeq (pc' := 27) rfl rfl ?_ ?_
    · intro h24
      refine wp_aload0 (pc' := 33) rfl rfl ?_
      refine wp_pool (v := .ref (lmB + 100)) (pc' := 35) rfl rfl rfl rfl rfl ?_
      refine wp_callV2 (pc' := 38) rfl rfl rfl rfl rfl (by first | exact TK.k1 hT rfl | exact TK.kk hT rfl | exact TK.r hT rfl | assumption) rfl rfl ?_
      refine m_isWordJ (w := 50) (p := q + letN tv T q) (b := q) [108, 97, 105, 100] hT hR1 hJ1.2.2.1 hJ1.2.2.2 (tk_ss hJ1 hS) (by decide) (by decide) (by omega) (by omega) ?_
      rw [wb_wd]
      refine Cont.v ?_
      first | refine wp_ifeqB (pc' := 41) rfl rfl ?_ ?_ | refine wp_ifeq (pc' := 41) rfl rfl ?_ ?_
      · intro h38
        refine wp_iconst (v := (-1)) (pc' := 47) rfl rfl rfl ?_
        refine wp_istore1 (pc' := 48) rfl (by first | rfl | assumption) rfl ?_
        refine wp_iload1 (pc' := 49) rfl rfl ?_
        refine wp_ifltT rfl (by decide) ?_
        refine wp_aload0 (pc' := 62) rfl rfl ?_
        refine wp_aload0 (pc' := 63) rfl rfl ?_
        refine wp_getI (pc' := 66) rfl rfl (by first | exact TK.k1 hT rfl | exact TK.kk hT rfl | exact TK.r hT rfl | assumption) rfl ?_
        rw [hJ1.2.2.2]
        refine wp_putI (pc' := 69) rfl rfl (by first | exact TK.k1 hT rfl | exact TK.kk hT rfl | exact TK.r hT rfl | assumption) (by omega) rfl ?_
        refine wp_iload1 (pc' := 70) rfl rfl ?_
        refine wp_ifltT rfl (by decide) ?_
        refine wp_iconst (v := nI 0) (pc' := 78) rfl rfl rfl ?_
        refine wp_iret rfl rfl (by first | rfl | exact nar_if) ?_
        first | exact kt 0 J3 (by unfold wd facW; rw [pick_t h10]) (lr_tg (by decide) (by omega) hJ1 hlw1 (by omega) hJ3) | exact kt 1 J3 (by unfold wd facW; rw [pick_f h10, pick_t h24]) (lr_tg (by decide) (by omega) hJ1 hlw1 (by omega) hJ3) | exact kt 2 J3 (by unfold wd facW; rw [pick_f h10, pick_f h24, pick_t h38]) (lr_tg (by decide) (by omega) hJ1 hlw1 (by omega) hJ3) | exact kk _ (by unfold wd facW; rw [pick_f h10, pick_f h24, pick_f h38]; rfl) (tk_pt hJ1)
      · intro h38
        refine wp_bipush (v := nI 9) (pc' := 43) rfl rfl rfl ?_
        refine wp_goto rfl ?_
        refine wp_istore1 (pc' := 48) rfl (by first | rfl | assumption) rfl ?_
        refine wp_iload1 (pc' := 49) rfl rfl ?_
        refine wp_ifltF (pc' := 52) rfl (by decide) rfl ?_
        refine wp_aload0 (pc' := 53) rfl rfl ?_
        refine wp_iload1 (pc' := 54) rfl rfl ?_
        refine wp_iconst (v := nI 0) (pc' := 55) rfl rfl rfl ?_
        refine wp_callV3 (pc' := 58) rfl rfl rfl rfl rfl (by first | exact TK.k1 hT rfl | exact TK.kk hT rfl | exact TK.r hT rfl | assumption) rfl rfl ?_
        refine m_emits (z := st.2) hT hlw1.2.1 (by omega) (fun J3 hJ3 => ?_)
        refine Cont.u ?_
        refine wp_goto rfl ?_
        refine wp_iload1 (pc' := 70) rfl rfl ?_
        refine wp_ifltF (pc' := 73) rfl (by decide) rfl ?_
        refine wp_iconst (v := nI 1) (pc' := 74) rfl rfl rfl ?_
        refine wp_goto rfl ?_
        refine wp_iret rfl rfl (by first | rfl | exact nar_if) ?_
        first | exact kt 0 J3 (by unfold wd facW; rw [pick_t h10]) (lr_tg (by decide) (by omega) hJ1 hlw1 (by omega) hJ3) | exact kt 1 J3 (by unfold wd facW; rw [pick_f h10, pick_t h24]) (lr_tg (by decide) (by omega) hJ1 hlw1 (by omega) hJ3) | exact kt 2 J3 (by unfold wd facW; rw [pick_f h10, pick_f h24, pick_t h38]) (lr_tg (by decide) (by omega) hJ1 hlw1 (by omega) hJ3) | exact kk _ (by unfold wd facW; rw [pick_f h10, pick_f h24, pick_f h38]; rfl) (tk_pt hJ1)
    · intro h24
      refine wp_bipush (v := nI 8) (pc' := 29) rfl rfl rfl ?_
      refine wp_goto rfl ?_
      refine wp_istore1 (pc' := 48) rfl (by first | rfl | assumption) rfl ?_
      refine wp_iload1 (pc' := 49) rfl rfl ?_
      refine wp_ifltF (pc' := 52) rfl (by decide) rfl ?_
      refine wp_aload0 (pc' := 53) rfl rfl ?_
      refine wp_iload1 (pc' := 54) rfl rfl ?_
      refine wp_iconst (v := nI 0) (pc' := 55) rfl rfl rfl ?_
      refine wp_callV3 (pc' := 58) rfl rfl rfl rfl rfl (by first | exact TK.k1 hT rfl | exact TK.kk hT rfl | exact TK.r hT rfl | assumption) rfl rfl ?_
      refine m_emits (z := st.2) hT hlw1.2.1 (by omega) (fun J3 hJ3 => ?_)
      refine Cont.u ?_
      refine wp_goto rfl ?_
      refine wp_iload1 (pc' := 70) rfl rfl ?_
      refine wp_ifltF (pc' := 73) rfl (by decide) rfl ?_
      refine wp_iconst (v := nI 1) (pc' := 74) rfl rfl rfl ?_
      refine wp_goto rfl ?_
      refine wp_iret rfl rfl (by first | rfl | exact nar_if) ?_
      first | exact kt 0 J3 (by unfold wd facW; rw [pick_t h10]) (lr_tg (by decide) (by omega) hJ1 hlw1 (by omega) hJ3) | exact kt 1 J3 (by unfold wd facW; rw [pick_f h10, pick_t h24]) (lr_tg (by decide) (by omega) hJ1 hlw1 (by omega) hJ3) | exact kt 2 J3 (by unfold wd facW; rw [pick_f h10, pick_f h24, pick_t h38]) (lr_tg (by decide) (by omega) hJ1 hlw1 (by omega) hJ3) | exact kk _ (by unfold wd facW; rw [pick_f h10, pick_f h24, pick_f h38]; rfl) (tk_pt hJ1)
  · intro h10
    refine wp_bipush (v := nI 7) (pc' := 15) rfl rfl rfl ?_
    refine wp_goto rfl ?_
    refine wp_istore1 (pc' := 48) rfl (by first | rfl | assumption) rfl ?_
    refine wp_iload1 (pc' := 49) rfl rfl ?_
    refine wp_ifltF (pc' := 52) rfl (by decide) rfl ?_
    refine wp_aload0 (pc' := 53) rfl rfl ?_
    refine wp_iload1 (pc' := 54) rfl rfl ?_
    refine wp_iconst (v := nI 0) (pc' := 55) rfl rfl rfl ?_
    refine wp_callV3 (pc' := 58) rfl rfl rfl rfl rfl (by first | exact TK.k1 hT rfl | exact TK.kk hT rfl | exact TK.r hT rfl | assumption) rfl rfl ?_
    refine m_emits (z := st.2) hT hlw1.2.1 (by omega) (fun J3 hJ3 => ?_)
    refine Cont.u ?_
    refine wp_goto rfl ?_
    refine wp_iload1 (pc' := 70) rfl rfl ?_
    refine wp_ifltF (pc' := 73) rfl (by decide) rfl ?_
    refine wp_iconst (v := nI 1) (pc' := 74) rfl rfl rfl ?_
    refine wp_goto rfl ?_
    refine wp_iret rfl rfl (by first | rfl | exact nar_if) ?_
    first | exact kt 0 J3 (by unfold wd facW; rw [pick_t h10]) (lr_tg (by decide) (by omega) hJ1 hlw1 (by omega) hJ3) | exact kt 1 J3 (by unfold wd facW; rw [pick_f h10, pick_t h24]) (lr_tg (by decide) (by omega) hJ1 hlw1 (by omega) hJ3) | exact kt 2 J3 (by unfold wd facW; rw [pick_f h10, pick_f h24, pick_t h38]) (lr_tg (by decide) (by omega) hJ1 hlw1 (by omega) hJ3) | exact kk _ (by unfold wd facW; rw [pick_f h10, pick_f h24, pick_f h38]; rfl) (tk_pt hJ1)
theorem m_bas {d : Nat} {K : Nat → Nat × Nat} {I : Mem} {L : Nat → Nat → Int64} {R : Nat → Nat → Option Nat} {n s : Nat} {Q : Lo → Lm → Prop} {T p dp : Nat} {tv : Nat → Nat} {st : Sz} (hT : TK K R n) (hR : RfI I T tv) (hp : p ≤ T) (h10 : I 318 10 = nI p) (hS : SS K I R) (hlw : LwS I st dp) (hg : st.2 + 1 ≤ skp tv T p) (kk : ∀ J, LrJ T tv I dp (basF tv T st (skp tv T p)) J → Q (.inl (some (.int (if (basF tv T st (skp tv T p)).1 = true then nI 1 else nI 0)))) (K, J, L, R, n, s)) : WP (d + 6) F_246 114 [.ref 318, lDead] [] (K, I, L, R, n, s) Q := by
  obtain ⟨-, -, hn⟩ := id hT
  have hT4 := hR.2.1
  refine wp_aload0 (pc' := 115) rfl rfl ?_
  refine wp_callV1 (pc' := 118) rfl rfl rfl rfl rfl (by first | exact TK.k1 hT rfl | exact TK.kk hT rfl | exact TK.r hT rfl | assumption) rfl rfl ?_
  refine m_readTag (st := st) (dp := dp) hT hR hp h10 hS hlw hg (fun k J hk hJ => ?_) (fun J1 hk hJ1 => ?_)
  · refine Cont.v ?_
    refine wp_ifeqF (pc' := 121) rfl (by decide) rfl ?_
    refine wp_iconst (v := nI 1) (pc' := 122) rfl rfl rfl ?_
    refine wp_iret rfl rfl (by first | rfl | exact nar_if) ?_
    exact re_t rfl (by unfold basF; rw [hk]) kk hJ
  obtain ⟨q, hq⟩ : ∃ q, skp tv T p = q := ⟨_, rfl⟩
  have hqT := (skp_ge (tv := tv) hp).2
  have hqq := skp_sk (tv := tv) hp
  rw [hq] at hJ1 hqT hqq hg kk hk
  refine Cont.v ?_
  refine wp_ifeqT rfl rfl ?_
  refine wp_aload0 (pc' := 124) rfl rfl ?_
  refine wp_callV1 (pc' := 127) rfl rfl rfl rfl rfl (by first | exact TK.k1 hT rfl | exact TK.kk hT rfl | exact TK.r hT rfl | assumption) rfl rfl ?_
  refine m_readSum (st := st) (dp := dp) hT (tk_rd hJ1 hR) hqT hJ1.2.2.1 (tk_ss hJ1 hS) (lw_tk hJ1 hlw) (by rw [hqq]; exact hg) (fun J2 hJ2 => ?_)
  rw [hqq] at hJ2 ⊢
  obtain ⟨r1, hr1⟩ : ∃ r, sumP tv T st q = r := ⟨_, rfl⟩
  rw [hr1] at hJ2 ⊢
  refine Cont.v ?_
  first | refine wp_ifneB (pc' := 130) rfl rfl ?_ ?_ | refine wp_ifne (pc' := 130) rfl rfl ?_ ?_
  · intro h127
    obtain ⟨hLw2, p2, hp2, hJ2p, hz2⟩ := hJ2.2.2.2.1 h127
    have hR2 := lf_rd (lf_lr hJ2) (tk_rd hJ1 hR)
    have hS2 := lf_ss (lf_lr hJ2) (tk_ss hJ1 hS)
    have hG1 := gr_sum (tv := tv) (T := T) st q hqT (by rw [hr1]; exact h127)
    rw [hr1] at hG1
    have hzT := hG1.2
    have hzz : skp tv T r1.2.2 = r1.2.2 := by rw [← hz2]; exact skp_sk hp2
    refine wp_aload0 (pc' := 133) rfl rfl ?_
    refine wp_bipush (v := nI 60) (pc' := 135) rfl rfl rfl ?_
    refine wp_callV2 (pc' := 138) rfl rfl rfl rfl rfl (by first | exact TK.k1 hT rfl | exact TK.kk hT rfl | exact TK.r hT rfl | assumption) rfl rfl ?_
    refine m_signJ (c := 60) hT hR2 hp2 hJ2p (by decide) (fun J3 hJ3 => ?_)
    rw [hz2] at hJ3 ⊢
    refine Cont.v ?_
    refine wp_istore1 (pc' := 139) rfl (by first | rfl | assumption) rfl ?_
    refine wp_iload1 (pc' := 140) rfl rfl ?_
    first | refine wp_ifneB (pc' := 143) rfl rfl ?_ ?_ | refine wp_ifne (pc' := 143) rfl rfl ?_ ?_
    · intro h140
      first | (rw [if_pos h149] at hJ6; have hTa := tk_tr hJ3 hJ6; have hsg := h149.1; have hco : cmpF tv T st q = if (sumP tv T r1.2.1 (skp tv T (r1.2.2 + 1))).1 = true then (true, putS (sumP tv T r1.2.1 (skp tv T (r1.2.2 + 1))).2.1 (nI 1013), (sumP tv T r1.2.1 (skp tv T (r1.2.2 + 1))).2.2) else sumP tv T r1.2.1 (skp tv T (r1.2.2 + 1)) := by unfold cmpF; rw [hr1, if_pos h127, if_neg h140, if_pos h149]) | (rw [if_pos h140] at hJ3; have hTa := hJ3; have hsg := h140.1; have hco : cmpF tv T st q = if (sumP tv T r1.2.1 (skp tv T (r1.2.2 + 1))).1 = true then (true, putS (sumP tv T r1.2.1 (skp tv T (r1.2.2 + 1))).2.1 (nI 1012), (sumP tv T r1.2.1 (skp tv T (r1.2.2 + 1))).2.2) else sumP tv T r1.2.1 (skp tv T (r1.2.2 + 1)) := by unfold cmpF; rw [hr1, if_pos h127, if_pos h140])
      refine wp_aload0 (pc' := 153) rfl rfl ?_
      refine wp_callV1 (pc' := 156) rfl rfl rfl rfl rfl (by first | exact TK.k1 hT rfl | exact TK.kk hT rfl | exact TK.r hT rfl | assumption) rfl rfl ?_
      refine m_readSum (st := r1.2.1) (dp := dp) hT (tk_rd hTa hR2) (show r1.2.2 + 1 ≤ T from hsg) hTa.2.2.1 (tk_ss hTa hS2) (lw_tk hTa hLw2) (by have := (skp_ge (tv := tv) (T := T) (p := r1.2.2 + 1) hsg).1; omega) (fun J4 hJ4 => ?_)
      obtain ⟨r2, hr2⟩ : ∃ r, sumP tv T r1.2.1 (skp tv T (r1.2.2 + 1)) = r := ⟨_, rfl⟩
      rw [hr2] at hJ4 ⊢
      refine Cont.v ?_
      first | refine wp_ifneB (pc' := 159) rfl rfl ?_ ?_ | refine wp_ifne (pc' := 159) rfl rfl ?_ ?_
      · intro h156
        refine wp_aload0 (pc' := 162) rfl rfl ?_
        refine wp_iload1 (pc' := 163) rfl rfl ?_
        refine wp_ifeqF (pc' := 166) rfl (by rw [if_pos h140]; decide) rfl ?_
        refine wp_bipush (v := nI 12) (pc' := 168) rfl rfl rfl ?_
        refine wp_goto rfl ?_
        refine wp_iconst (v := nI 0) (pc' := 174) rfl rfl rfl ?_
        refine wp_callV3 (pc' := 177) rfl rfl rfl rfl rfl (by first | exact TK.k1 hT rfl | exact TK.kk hT rfl | exact TK.r hT rfl | assumption) rfl rfl ?_
        obtain ⟨hLw4, p4, hp4, hJ4p, hz4⟩ := hJ4.2.2.2.1 h156
        have hG2 := gr_sum (tv := tv) (T := T) r1.2.1 (skp tv T (r1.2.2 + 1)) (skp_ge (tv := tv) (T := T) (p := r1.2.2 + 1) hsg).2 (by rw [hr2]; exact h156)
        rw [hr2] at hG2
        have hsk5 := (skp_ge (tv := tv) (T := T) (p := r1.2.2 + 1) hsg).1
        refine m_emits (z := r2.2.1.2) hT hLw4.2.1 (by omega) (fun J7 hJ7 => ?_)
        refine Cont.u ?_
        refine wp_iconst (v := nI 1) (pc' := 178) rfl rfl rfl ?_
        refine wp_iret rfl rfl (by first | rfl | exact nar_if) ?_
        first | exact re_t (r := (true, putS r2.2.1 (nI 1012), r2.2.2)) rfl (by unfold basF; rw [hk]; dsimp only; rw [hco, hr2, if_pos h156]) kk (lr_t (lf_t (lf_t (lf_tk hJ1) (lf_t (lf_lr hJ2) (lf_tk hTa))) (lf_t (lf_lr hJ4) (lf_em hJ7))) (lw_em hLw4 (by omega) (v := nI 1012) hJ7).1 hp4 (by rw [hJ7.2.2.2.2.1 10 (by decide)]; exact hJ4p) hz4) | exact re_t (r := (true, putS r2.2.1 (nI 1013), r2.2.2)) rfl (by unfold basF; rw [hk]; dsimp only; rw [hco, hr2, if_pos h156]) kk (lr_t (lf_t (lf_t (lf_tk hJ1) (lf_t (lf_lr hJ2) (lf_tk hTa))) (lf_t (lf_lr hJ4) (lf_em hJ7))) (lw_em hLw4 (by omega) (v := nI 1013) hJ7).1 hp4 (by rw [hJ7.2.2.2.2.1 10 (by decide)]; exact hJ4p) hz4)
      · intro h156
        refine wp_iconst (v := nI 0) (pc' := 160) rfl rfl rfl ?_
        refine wp_iret rfl rfl (by first | rfl | exact nar_if) ?_
        first | exact re_f h156 (by unfold basF; rw [hk]; dsimp only; rw [hco, hr2, if_neg h156]) kk (lr_x (lf_t (lf_tk hJ1) (lf_t (lf_lr hJ2) (lf_tk hTa))) hJ4) | (rw [if_neg h149] at hJ6; exact re_f (r := (false, r1.2)) Bool.false_ne_true (by unfold basF; rw [hk]; dsimp only; unfold cmpF; rw [hr1, if_pos h127, if_neg h140, if_neg h149]) kk (lr_f (st := r1.2.1) (z := r1.2.2) (lf_t (lf_tk hJ1) (lf_t (lf_lr hJ2) (lf_tk (tk_tr hJ3 hJ6)))) hJ6.2.2.2))
    · intro h140
      refine wp_aload0 (pc' := 144) rfl rfl ?_
      refine wp_bipush (v := nI 62) (pc' := 146) rfl rfl rfl ?_
      refine wp_callV2 (pc' := 149) rfl rfl rfl rfl rfl (by first | exact TK.k1 hT rfl | exact TK.kk hT rfl | exact TK.r hT rfl | assumption) rfl rfl ?_
      rw [if_neg h140] at hJ3
      refine m_signJ (c := 62) hT (tk_rd hJ3 hR2) hzT hJ3.2.2.1 (by decide) (fun J6 hJ6 => ?_)
      rw [hzz] at hJ6 ⊢
      refine Cont.v ?_
      first | refine wp_ifeqB (pc' := 152) rfl rfl ?_ ?_ | refine wp_ifeq (pc' := 152) rfl rfl ?_ ?_
      · intro h149
        refine wp_iconst (v := nI 0) (pc' := 160) rfl rfl rfl ?_
        refine wp_iret rfl rfl (by first | rfl | exact nar_if) ?_
        first | exact re_f h156 (by unfold basF; rw [hk]; dsimp only; rw [hco, hr2, if_neg h156]) kk (lr_x (lf_t (lf_tk hJ1) (lf_t (lf_lr hJ2) (lf_tk hTa))) hJ4) | (rw [if_neg h149] at hJ6; exact re_f (r := (false, r1.2)) Bool.false_ne_true (by unfold basF; rw [hk]; dsimp only; unfold cmpF; rw [hr1, if_pos h127, if_neg h140, if_neg h149]) kk (lr_f (st := r1.2.1) (z := r1.2.2) (lf_t (lf_tk hJ1) (lf_t (lf_lr hJ2) (lf_tk (tk_tr hJ3 hJ6)))) hJ6.2.2.2))
      · intro h149
        first | (rw [if_pos h149] at hJ6; have hTa := tk_tr hJ3 hJ6; have hsg := h149.1; have hco : cmpF tv T st q = if (sumP tv T r1.2.1 (skp tv T (r1.2.2 + 1))).1 = true then (true, putS (sumP tv T r1.2.1 (skp tv T (r1.2.2 + 1))).2.1 (nI 1013), (sumP tv T r1.2.1 (skp tv T (r1.2.2 + 1))).2.2) else sumP tv T r1.2.1 (skp tv T (r1.2.2 + 1)) := by unfold cmpF; rw [hr1, if_pos h127, if_neg h140, if_pos h149]) | (rw [if_pos h140] at hJ3; have hTa := hJ3; have hsg := h140.1; have hco : cmpF tv T st q = if (sumP tv T r1.2.1 (skp tv T (r1.2.2 + 1))).1 = true then (true, putS (sumP tv T r1.2.1 (skp tv T (r1.2.2 + 1))).2.1 (nI 1012), (sumP tv T r1.2.1 (skp tv T (r1.2.2 + 1))).2.2) else sumP tv T r1.2.1 (skp tv T (r1.2.2 + 1)) := by unfold cmpF; rw [hr1, if_pos h127, if_pos h140])
        refine wp_aload0 (pc' := 153) rfl rfl ?_
        refine wp_callV1 (pc' := 156) rfl rfl rfl rfl rfl (by first | exact TK.k1 hT rfl | exact TK.kk hT rfl | exact TK.r hT rfl | assumption) rfl rfl ?_
        refine m_readSum (st := r1.2.1) (dp := dp) hT (tk_rd hTa hR2) (show r1.2.2 + 1 ≤ T from hsg) hTa.2.2.1 (tk_ss hTa hS2) (lw_tk hTa hLw2) (by have := (skp_ge (tv := tv) (T := T) (p := r1.2.2 + 1) hsg).1; omega) (fun J4 hJ4 => ?_)
        obtain ⟨r2, hr2⟩ : ∃ r, sumP tv T r1.2.1 (skp tv T (r1.2.2 + 1)) = r := ⟨_, rfl⟩
        rw [hr2] at hJ4 ⊢
        refine Cont.v ?_
        first | refine wp_ifneB (pc' := 159) rfl rfl ?_ ?_ | refine wp_ifne (pc' := 159) rfl rfl ?_ ?_
        · intro h156
          refine wp_aload0 (pc' := 162) rfl rfl ?_
          refine wp_iload1 (pc' := 163) rfl rfl ?_
          refine wp_ifeqT rfl (if_neg h140) ?_
          refine wp_bipush (v := nI 13) (pc' := 173) rfl rfl rfl ?_
          refine wp_iconst (v := nI 0) (pc' := 174) rfl rfl rfl ?_
          refine wp_callV3 (pc' := 177) rfl rfl rfl rfl rfl (by first | exact TK.k1 hT rfl | exact TK.kk hT rfl | exact TK.r hT rfl | assumption) rfl rfl ?_
          obtain ⟨hLw4, p4, hp4, hJ4p, hz4⟩ := hJ4.2.2.2.1 h156
          have hG2 := gr_sum (tv := tv) (T := T) r1.2.1 (skp tv T (r1.2.2 + 1)) (skp_ge (tv := tv) (T := T) (p := r1.2.2 + 1) hsg).2 (by rw [hr2]; exact h156)
          rw [hr2] at hG2
          have hsk5 := (skp_ge (tv := tv) (T := T) (p := r1.2.2 + 1) hsg).1
          refine m_emits (z := r2.2.1.2) hT hLw4.2.1 (by omega) (fun J7 hJ7 => ?_)
          refine Cont.u ?_
          refine wp_iconst (v := nI 1) (pc' := 178) rfl rfl rfl ?_
          refine wp_iret rfl rfl (by first | rfl | exact nar_if) ?_
          first | exact re_t (r := (true, putS r2.2.1 (nI 1012), r2.2.2)) rfl (by unfold basF; rw [hk]; dsimp only; rw [hco, hr2, if_pos h156]) kk (lr_t (lf_t (lf_t (lf_tk hJ1) (lf_t (lf_lr hJ2) (lf_tk hTa))) (lf_t (lf_lr hJ4) (lf_em hJ7))) (lw_em hLw4 (by omega) (v := nI 1012) hJ7).1 hp4 (by rw [hJ7.2.2.2.2.1 10 (by decide)]; exact hJ4p) hz4) | exact re_t (r := (true, putS r2.2.1 (nI 1013), r2.2.2)) rfl (by unfold basF; rw [hk]; dsimp only; rw [hco, hr2, if_pos h156]) kk (lr_t (lf_t (lf_t (lf_tk hJ1) (lf_t (lf_lr hJ2) (lf_tk hTa))) (lf_t (lf_lr hJ4) (lf_em hJ7))) (lw_em hLw4 (by omega) (v := nI 1013) hJ7).1 hp4 (by rw [hJ7.2.2.2.2.1 10 (by decide)]; exact hJ4p) hz4)
        · intro h156
          refine wp_iconst (v := nI 0) (pc' := 160) rfl rfl rfl ?_
          refine wp_iret rfl rfl (by first | rfl | exact nar_if) ?_
          first | exact re_f h156 (by unfold basF; rw [hk]; dsimp only; rw [hco, hr2, if_neg h156]) kk (lr_x (lf_t (lf_tk hJ1) (lf_t (lf_lr hJ2) (lf_tk hTa))) hJ4) | (rw [if_neg h149] at hJ6; exact re_f (r := (false, r1.2)) Bool.false_ne_true (by unfold basF; rw [hk]; dsimp only; unfold cmpF; rw [hr1, if_pos h127, if_neg h140, if_neg h149]) kk (lr_f (st := r1.2.1) (z := r1.2.2) (lf_t (lf_tk hJ1) (lf_t (lf_lr hJ2) (lf_tk (tk_tr hJ3 hJ6)))) hJ6.2.2.2))
  · intro h127
    refine wp_iconst (v := nI 0) (pc' := 131) rfl rfl rfl ?_
    refine wp_iret rfl rfl (by first | rfl | exact nar_if) ?_
    exact re_f h127 (by unfold basF; rw [hk]; dsimp only; unfold cmpF; rw [hr1, if_neg h127]) kk (lr_x (lf_tk hJ1) hJ2)
