/-! THE REFERENCE: bog -/
theorem m_isAtTJ {d : Nat} {K : Nat → Nat × Nat} {I : Mem} {L : Nat → Nat → Int64} {R : Nat → Nat → Option Nat} {n s : Nat} {Q : Lo → Lm → Prop} {T p : Nat} {tv : Nat → Nat} {lo hi : Nat} (hT : TK K R n) (hR : RfI I T tv) (hp : p ≤ T) (h10 : I 318 10 = nI p) (hl : lo < 128) (hh : hi < 128) (kk : Q (.inl (some (.int (if p < T ∧ lo ≤ tv p ∧ tv p ≤ hi then nI 1 else nI 0)))) (K, I, L, R, n, s)) : Ok (d + 1) 223 [.ref 318, .int (nI lo), .int (nI hi)] (K, I, L, R, n, s) Q := by
  obtain ⟨b, hb⟩ := nI_surj (I 318 12)
  have h := m_isAtT (I := I) (b := b) (K := K) (L := L) (R := R) (n := n) (s := s) (d := d) (Q := Q) hT hR hp hl hh (by rw [rf_self h10 hb]; exact kk)
  rw [rf_self h10 hb] at h
  exact h
theorem al_0 {I N : Mem} {T : Nat} {tv : Nat → Nat} (h : UsN I N T) : AlI T tv I (up2 N 318 16 (nI 0)) ∧ up2 N 318 16 (nI 0) 318 10 = nI 0 ∧ up2 N 318 16 (nI 0) 319 = I 319 := by
  refine ⟨⟨fun a a1 _ => (up2_row a1).trans (h.1 a a1), fun j hj => ?_, ?_, ?_, ?_⟩, ?_, ?_⟩
  · rw [up2_same, if_neg (by omega)]; exact h.2.1 j (by omega)
  · rw [up2_same, if_neg (by decide)]; exact h.2.2.1
  · rw [up2_same, if_neg (by decide)]; exact h.2.2.2.1
  · rw [up2_same, if_neg (by decide)]; exact h.2.2.2.2.1
  · rw [up2_same, if_neg (by decide)]; exact h.2.2.2.2.2
  · rw [up2_row (by decide)]; exact h.1 319 (by decide)
theorem wal_f {tv : Nat → Nat} {T i H q : Nat} {w : Nat → Int32} {r rq : Bool × (Nat → Int32) × Nat} (hH : w 0 = nI H) (h6 : H ≤ 6) (h : wlAll tv T (14 - i) w q = rq) (hr : wlLn tv T i w q H = r) (hb : ¬ r.1 = true) : rq = r := by
  have ht : tn (w 0) = H := by rw [hH]; exact tn_nI (by omega)
  unfold wlLn at hr
  by_cases e : i < 14
  · rw [if_pos e] at hr
    rw [show 14 - i = (14 - (i + 1)) + 1 by omega, wlAll, ht, hr, if_neg hb] at h
    exact h.symm
  · rw [if_neg e] at hr
    rw [show 14 - i = 0 by omega, wlAll] at h
    rw [← h, ← hr]
theorem wal_t {tv : Nat → Nat} {T i H q : Nat} {w : Nat → Int32} {r rq : Bool × (Nat → Int32) × Nat} (hH : w 0 = nI H) (h6 : H ≤ 6) (h : wlAll tv T (14 - i) w q = rq) (hr : wlLn tv T i w q H = r) (hb : r.1 = true) : i < 14 ∧ H0 r ∧ (if T ≤ r.2.2 then r else if tv r.2.2 = 59 then wlAll tv T (14 - (i + 1)) r.2.1 (skp tv T (r.2.2 + 1)) else (false, r.2)) = rq := by
  have ht : tn (w 0) = H := by rw [hH]; exact tn_nI (by omega)
  unfold wlLn at hr
  by_cases e : i < 14
  · rw [if_pos e] at hr
    rw [show 14 - i = (14 - (i + 1)) + 1 by omega, wlAll, ht, hr, if_pos hb] at h
    exact ⟨e, by rw [← hr]; exact wlLin_H hH h6, h⟩
  · rw [if_neg e] at hr
    rw [← hr] at hb
    exact absurd (show false = true from hb) (by decide)
def AlB (T : Nat) (tv : Nat → Nat) (I : Mem) (rq : Bool × (Nat → Int32) × Nat) (i : Nat) (J : Mem) : Prop := AlI T tv I J ∧ i ≤ 14 ∧ (∃ H, H ≤ 6 ∧ J 319 0 = nI H) ∧ ∃ p, p ≤ T ∧ J 318 10 = nI p ∧ wlAll tv T (14 - i) (J 319) (skp tv T p) = rq

theorem alb_n {T i H2 : Nat} {tv : Nat → Nat} {I J2 : Mem} {r1 rq : Bool × (Nat → Int32) × Nat} (hA3 : AlI T tv I J2) (hi : i < 14) (hJ29 : J2 319 = r1.2.1) (hH6 : H2 ≤ 6) (hH2 : r1.2.1 0 = nI H2) (hnx : (if T ≤ r1.2.2 then r1 else if tv r1.2.2 = 59 then wlAll tv T (14 - (i + 1)) r1.2.1 (skp tv T (r1.2.2 + 1)) else (false, r1.2)) = rq) (h51 : ¬ nI r1.2.2 = nI T) (h66 : r1.2.2 < T ∧ 59 ≤ tv r1.2.2 ∧ tv r1.2.2 ≤ 59) (hzT : r1.2.2 ≤ T) : AlB T tv I rq (i + 1) (up2 J2 318 10 (nI (r1.2.2 + 1))) := by
  rw [if_neg (by omega), if_pos (by omega)] at hnx
  have h9 : up2 J2 318 10 (nI (r1.2.2 + 1)) 319 = r1.2.1 := (up2_row (by decide)).trans hJ29
  refine ⟨⟨fun a a1 a2 => (up2_row a1).trans (hA3.1 a a1 a2), fun j hj => ?_, ?_, ?_, ?_⟩, by omega, ⟨H2, hH6, by rw [h9]; exact hH2⟩, r1.2.2 + 1, by omega, up2_hit, by rw [h9]; exact hnx⟩
  · rw [up2_same, if_neg (by omega)]; exact hA3.2.1 j hj
  · rw [up2_same, if_neg (by decide)]; exact hA3.2.2.1
  · rw [up2_same, if_neg (by decide)]; exact hA3.2.2.2.1
  · rw [up2_same, if_neg (by decide)]; exact hA3.2.2.2.2

theorem m_allB {d : Nat} {K : Nat → Nat × Nat} {I : Nat → Nat → Int32} {L : Nat → Nat → Int64} {R : Nat → Nat → Option Nat} {n s : Nat} {Q : Lo → Lm → Prop} {T H0_ : Nat} {tv : Nat → Nat} {rq : Bool × (Nat → Int32) × Nat} (hT : TK K R n) (h9 : I 318 9 = nI T) (hT4 : T ≤ 400) (htp : TpW (I 324) tv) (hS : SS K I R) (hw : I 319 0 = nI H0_) (hH06 : H0_ ≤ 6) (hrq : wlBog tv T (I 319) (skp tv T 0) = rq) (kk : ∀ x J, AlJ I rq J → (rq.1 = true → ∃ y, y ≤ 15 ∧ x = nI y) → (rq.1 = false → x = -1) → Q (.inl (some (.int (x)))) (K, J, L, R, n, s)) : Ok (d + 9) 220 [.ref 318, .int (nI 1)] (K, I, L, R, n, s) Q := by
  obtain ⟨-, -, hn⟩ := id hT
  refine Ok.enter (F := F_220) (ls := [.ref 318, .int (nI 1), lDead]) rfl rfl ?_
  refine wp_aload0 (pc' := 1) rfl rfl ?_
  refine wp_callV1 (pc' := 4) rfl rfl rfl rfl rfl (by first | exact TK.k1 hT rfl | exact TK.kk hT rfl | exact TK.r hT rfl | assumption) rfl rfl ?_
  refine m_usesN hT h9 (fun N hN => ?_)
  refine Cont.u ?_
  refine wp_aload0 (pc' := 5) rfl rfl ?_
  refine wp_iconst (v := nI 0) (pc' := 6) rfl rfl rfl ?_
  refine wp_putI (pc' := 9) rfl rfl (by first | exact TK.k1 hT rfl | exact TK.kk hT rfl | exact TK.r hT rfl | assumption) (by omega) rfl ?_
  refine wp_aload0 (pc' := 10) rfl rfl ?_
  refine wp_callV1 (pc' := 13) rfl rfl rfl rfl rfl (by first | exact TK.k1 hT rfl | exact TK.kk hT rfl | exact TK.r hT rfl | assumption) rfl rfl ?_
  obtain ⟨hA0, hM10, hM9⟩ := al_0 (tv := tv) hN
  refine m_blanksTJ hT (al_rf hA0 hT4 htp) (Nat.zero_le _) hM10 (fun J0 hJ0 => ?_)
  have hA1 := al_tk hA0 hJ0
  have hJ9 : J0 319 = I 319 := (hJ0.1 319 (by decide)).trans hM9
  have hsT := (skp_ge (tv := tv) (Nat.zero_le T)).2
  refine Cont.u ?_
  refine wp_aload0 (pc' := 14) rfl rfl ?_
  refine wp_getI (pc' := 17) rfl rfl (by first | exact TK.k1 hT rfl | exact TK.kk hT rfl | exact TK.r hT rfl | assumption) rfl ?_
  rw [hJ0.2.2.1]
  refine wp_aload0 (pc' := 18) rfl rfl ?_
  refine wp_getI (pc' := 21) rfl rfl (by first | exact TK.k1 hT rfl | exact TK.kk hT rfl | exact TK.r hT rfl | assumption) rfl ?_
  rw [hA1.2.2.2.2]
  refine wp_icmpne (pc' := 24) rfl rfl ?_ ?_
  · intro h21
    refine wp_iconst (v := nI 0) (pc' := 27) rfl rfl rfl ?_
    refine wp_istore2 (pc' := 28) rfl (by first | rfl | assumption) rfl ?_
    have lp28 : ∀ r (i : Nat) (J : Mem), i + r = 15 → AlB T tv I rq i J → WP (d + 8) F_220 28 [.ref 318, .int (nI 1), .int (nI i)] [] (K, J, L, R, n, s) Q := by
      intro r; induction r with
      | zero =>
        intro i J hi hv0
        exact absurd hv0.2.1 (by omega)
      | succ r ih =>
        intro i J hi hv0
        refine wp_aload0 (pc' := 29) rfl rfl ?_
        refine wp_iload1 (pc' := 30) rfl rfl ?_
        refine wp_iload2 (pc' := 31) rfl rfl ?_
        refine wp_callV3 (pc' := 34) rfl rfl rfl rfl rfl (by first | exact TK.k1 hT rfl | exact TK.kk hT rfl | exact TK.r hT rfl | assumption) rfl rfl ?_
        obtain ⟨hA, hi14, ⟨H, hH6, hH⟩, p2, hp2, hJp, hwl⟩ := hv0
        refine m_lineB (H := H) hT (al_rf hA hT4 htp) hp2 hJp (SS_off hS (fun a ha => hA.1 a (by unfold lmB at ha; omega) (by unfold lmB at ha; omega))) hi14 hH hH6 (fun r1 J1 hr1 hJ1 => ?_)
        have hA2 := al_rd hA hJ1
        refine Cont.v ?_
        first | refine wp_ifneB (pc' := 37) rfl rfl ?_ ?_ | refine wp_ifne (pc' := 37) rfl rfl ?_ ?_
        · intro h34
          refine wp_aload0 (pc' := 40) rfl rfl ?_
          refine wp_callV1 (pc' := 43) rfl rfl rfl rfl rfl (by first | exact TK.k1 hT rfl | exact TK.kk hT rfl | exact TK.r hT rfl | assumption) rfl rfl ?_
          obtain ⟨hi13, hH0, hnx⟩ := wal_t hH hH6 hwl hr1 h34
          obtain ⟨hJ19, p3, hp3, hJ1p, hz⟩ := hJ1.2.2.1 h34
          obtain ⟨H2, hH26, hH2⟩ := hH0 h34
          refine m_blanksTJ hT (al_rf hA2 hT4 htp) hp3 hJ1p (fun J2 hJ2 => ?_)
          have hA3 := al_tk hA2 hJ2
          rw [hz] at hJ2
          have hzT := (skp_ge (tv := tv) hp3).2
          rw [hz] at hzT
          have hJ29 : J2 319 = r1.2.1 := (hJ2.1 319 (by decide)).trans hJ19
          refine Cont.u ?_
          refine wp_aload0 (pc' := 44) rfl rfl ?_
          refine wp_getI (pc' := 47) rfl rfl (by first | exact TK.k1 hT rfl | exact TK.kk hT rfl | exact TK.r hT rfl | assumption) rfl ?_
          rw [hJ2.2.2.1]
          refine wp_aload0 (pc' := 48) rfl rfl ?_
          refine wp_getI (pc' := 51) rfl rfl (by first | exact TK.k1 hT rfl | exact TK.kk hT rfl | exact TK.r hT rfl | assumption) rfl ?_
          rw [hA3.2.2.2.2]
          refine wp_icmpne (pc' := 54) rfl rfl ?_ ?_
          · intro h51
            refine wp_aload0 (pc' := 59) rfl rfl ?_
            refine wp_bipush (v := nI 59) (pc' := 61) rfl rfl rfl ?_
            refine wp_bipush (v := nI 59) (pc' := 63) rfl rfl rfl ?_
            refine wp_callV3 (pc' := 66) rfl rfl rfl rfl rfl (by first | exact TK.k1 hT rfl | exact TK.kk hT rfl | exact TK.r hT rfl | assumption) rfl rfl ?_
            refine m_isAtTJ hT (al_rf hA3 hT4 htp) hzT hJ2.2.2.1 (by decide) (by decide) ?_
            refine Cont.v ?_
            first | refine wp_ifneB (pc' := 69) rfl rfl ?_ ?_ | refine wp_ifne (pc' := 69) rfl rfl ?_ ?_
            · intro h66
              refine wp_aload0 (pc' := 72) rfl rfl ?_
              refine wp_dup (pc' := 73) rfl rfl rfl ?_
              refine wp_getI (pc' := 76) rfl rfl (by first | exact TK.k1 hT rfl | exact TK.kk hT rfl | exact TK.r hT rfl | assumption) rfl ?_
              rw [hJ2.2.2.1]
              refine wp_iconst (v := nI 1) (pc' := 77) rfl rfl rfl ?_
              first | refine wp_iaddN (pc' := 78) rfl (by with_reducible rfl) (by with_reducible rfl) rfl ?_ | refine wp_iadd (pc' := 78) rfl rfl ?_
              refine wp_putI (pc' := 81) rfl rfl (by first | exact TK.k1 hT rfl | exact TK.kk hT rfl | exact TK.r hT rfl | assumption) (by omega) rfl ?_
              first | refine wp_iinc2 (w := nI 1) (pc' := 84) rfl rfl rfl (by with_reducible exact nI_add _ _) rfl ?_ | refine wp_iinc2 (w := nI 1) (pc' := 84) rfl rfl rfl rfl rfl ?_
              refine wp_goto rfl ?_
              exact WP.cg (ih (i + 1) (up2 J2 318 10 (nI (r1.2.2 + 1))) (by omega) (alb_n hA3 hi13 hJ29 hH26 hH2 hnx h51 h66 hzT)) (lC1 (lI1 (by rfl) (lI1 (by rfl) rfl))) rfl (by rfl)
            · intro h66
              refine wp_iconst (v := (-1)) (pc' := 70) rfl rfl rfl ?_
              refine wp_iret rfl rfl rfl ?_
              rw [if_neg (fun z => h51 (by rw [show r1.2.2 = T by omega])), if_neg (fun z => h66 ⟨Nat.lt_of_le_of_ne hzT (fun y => h51 (by rw [y])), by omega, by omega⟩)] at hnx
              subst hnx
              exact kk (-1) J2 (al_fin hA3 (fun z => absurd (show false = true from z) (by decide)) (fun _ => hJ2.2.2.2)) (fun z => absurd (show false = true from z) (by decide)) (fun _ => rfl)
          · intro h51
            refine wp_iload2 (pc' := 55) rfl rfl ?_
            refine wp_iconst (v := nI 1) (pc' := 56) rfl rfl rfl ?_
            first | refine wp_iaddN (pc' := 57) rfl (by with_reducible rfl) (by with_reducible rfl) rfl ?_ | refine wp_iadd (pc' := 57) rfl rfl ?_
            refine wp_iret rfl rfl rfl ?_
            have hTe := eq_nI h51 (by omega) (by omega)
            rw [if_pos (by omega)] at hnx
            exact kk (nI (i + 1)) J2 (al_fin hA3 (fun _ => by rw [← hnx]; exact hJ29) (fun z => by rw [← hnx] at z; rw [h34] at z; exact absurd z (by decide))) (fun _ => ⟨i + 1, by omega, rfl⟩) (fun z => by rw [← hnx] at z; rw [h34] at z; exact absurd z (by decide))
        · intro h34
          refine wp_iconst (v := (-1)) (pc' := 38) rfl rfl rfl ?_
          refine wp_iret rfl rfl rfl ?_
          have e := wal_f hH hH6 hwl hr1 h34
          exact kk (-1) J1 (al_fin hA2 (fun z => by rw [e] at z; exact absurd z h34) (fun z => by rw [e] at z ⊢; exact hJ1.2.2.2 z)) (fun z => by rw [e] at z; exact absurd z h34) (fun _ => rfl)
    exact WP.cg (lp28 15 (0) J0 (by omega) ⟨hA1, by omega, ⟨H0_, hH06, by rw [hJ9]; exact hw⟩, _, hsT, hJ0.2.2.1, by rw [hJ9, skp_sk (Nat.zero_le _)]; have h0 := hrq; unfold wlBog at h0; rw [if_neg (fun z => h21 (by rw [show skp tv T 0 = T by omega]))] at h0; exact h0⟩) (lC1 (lI1 (by rfl) (lI1 (by rfl) rfl))) rfl (by rfl)
  · intro h21
    refine wp_iconst (v := nI 0) (pc' := 25) rfl rfl rfl ?_
    refine wp_iret rfl rfl rfl ?_
    have hTe := eq_nI h21 (by omega) (by omega)
    exact kk (nI 0) J0 (al_fin hA1 (fun _ => by rw [hJ9, ← hrq]; unfold wlBog; rw [if_pos (show T ≤ skp tv T 0 by omega)]) (fun z => by rw [← hrq] at z; unfold wlBog at z; rw [if_pos (show T ≤ skp tv T 0 by omega)] at z; exact absurd (show true = false from z) (by decide))) (fun _ => ⟨0, by decide, rfl⟩) (fun z => by rw [← hrq] at z; unfold wlBog at z; rw [if_pos (show T ≤ skp tv T 0 by omega)] at z; exact absurd (show true = false from z) (by decide))
/-- what a text of the bog leaves, taken or refused -/
def BgE (k : Nat) (x : Int32) (I J : Mem) : Prop := (∀ a, a ≠ 318 → a ≠ 319 → a ≠ 321 → J a = I a) ∧ (∀ j, (j = 6 ∨ j = 7) → J 318 j = I 318 j) ∧ J 318 0 = nI k ∧ J 318 9 = nI 0 ∧ J 318 14 = x ∧ ∀ j, j < 1332 → J 319 j = I 319 j
def BgY (w : Nat → Int32) (I J : Mem) : Prop := (∀ a, a ≠ 318 → a ≠ 319 → a ≠ 321 → J a = I a) ∧ J 318 6 = I 318 6 ∧ J 318 7 = nI 0 ∧ J 318 0 = nI 0 ∧ J 318 9 = nI 0 ∧ J 318 14 = -1 ∧ J 319 = w

theorem m_bogE1 {d : Nat} {K : Nat → Nat × Nat} {I : Nat → Nat → Int32} {L : Nat → Nat → Int64} {R : Nat → Nat → Option Nat} {n s : Nat} {Q : Lo → Lm → Prop} {T H0_ : Nat} {tv : Nat → Nat} {rq : Bool × (Nat → Int32) × Nat} (hT : TK K R n) (h9 : I 318 9 = nI T) (hT4 : T ≤ 400) (htp : TpW (I 324) tv) (hS : SS K I R) (hw : I 319 0 = nI H0_) (hH06 : H0_ ≤ 6) (hrq : wlBog tv T (I 319) (skp tv T 0) = rq) (hrf : rq.1 = false) (kk : ∀ J, BgE 1 (nI rq.2.2) I J → Q (.inl (some (.int (nI 0)))) (K, J, L, R, n, s)) : Ok (d + 10) 219 [.ref 318] (K, I, L, R, n, s) Q := by
  obtain ⟨-, -, hn⟩ := id hT
  refine Ok.enter (F := F_219) (ls := [.ref 318, lDead, lDead]) rfl rfl ?_
  refine wp_iconst (v := nI 0) (pc' := 1) rfl rfl rfl ?_
  refine wp_istore1 (pc' := 2) rfl (by first | rfl | assumption) rfl ?_
  have lp2 : ∀ r (i : Nat) (v2 : Value), i + r = 1332 → isL v2 = false → WP (d + 9) F_219 2 [.ref 318, .int (nI i), v2] [] (K, upr I 321 (cpy i (I 319) (I 321)), L, R, n, s) Q := by
    intro r; induction r with
    | zero =>
      intro i v2 hi hv0
      have hi2 : i = 1332 := by omega
      subst hi2
      refine wp_iload1 (pc' := 3) rfl rfl ?_
      refine wp_sipush (v := nI 1332) (pc' := 6) rfl rfl rfl ?_
      refine wp_icmpgeT rfl (nI_nlt (by omega) (by omega)) ?_
      refine wp_aload0 (pc' := 28) rfl rfl ?_
      refine wp_iconst (v := nI 1) (pc' := 29) rfl rfl rfl ?_
      refine wp_callV2 (pc' := 32) rfl rfl rfl rfl rfl (by first | exact TK.k1 hT rfl | exact TK.kk hT rfl | exact TK.r hT rfl | assumption) rfl rfl ?_
      obtain ⟨E, hE⟩ : ∃ E, E = upr I 321 (cpy 1332 (I 319) (I 321)) := ⟨_, rfl⟩
      rw [← hE]
      have hEa : ∀ a, a ≠ 321 → E a = I a := fun a ha => by rw [hE]; exact upr_ne ha
      have hE1 : ∀ j, j < 1332 → E 321 j = I 319 j := fun j hj => by rw [hE, upr_same]; exact cpy_lt hj
      refine m_allB (rq := rq) hT (by rw [hEa 318 (by decide)]; exact h9) hT4 (by rw [hEa 324 (by decide)]; exact htp) (SS_off hS (fun a ha => hEa a (by unfold lmB at ha; omega))) (by rw [hEa 319 (by decide)]; exact hw) hH06 (by rw [hEa 319 (by decide)]; exact hrq) (fun x J hJ hx1 hx0 => ?_)
      rw [hx0 hrf]
      have hb12 := hJ.2.2.2.2.2 hrf
      refine Cont.v ?_
      refine wp_istore1 (pc' := 33) rfl (by first | rfl | assumption) rfl ?_
      refine wp_aload0 (pc' := 34) rfl rfl ?_
      refine wp_iload1 (pc' := 35) rfl rfl ?_
      refine wp_ifgeF (pc' := 38) rfl (by decide) rfl ?_
      refine wp_aload0 (pc' := 39) rfl rfl ?_
      refine wp_getI (pc' := 42) rfl rfl (by first | exact TK.k1 hT rfl | exact TK.kk hT rfl | exact TK.r hT rfl | assumption) rfl ?_
      rw [hb12]
      refine wp_goto rfl ?_
      refine wp_putI (pc' := 49) rfl rfl (by first | exact TK.k1 hT rfl | exact TK.kk hT rfl | exact TK.r hT rfl | assumption) (by omega) rfl ?_
      refine wp_aload0 (pc' := 50) rfl rfl ?_
      refine wp_iload1 (pc' := 51) rfl rfl ?_
      refine wp_ifgeF (pc' := 54) rfl (by decide) rfl ?_
      refine wp_iconst (v := nI 1) (pc' := 55) rfl rfl rfl ?_
      refine wp_goto rfl ?_
      refine wp_iconst (v := nI 1) (pc' := 60) rfl rfl rfl ?_
      refine wp_callV3 (pc' := 63) rfl rfl rfl rfl rfl (by first | exact TK.k1 hT rfl | exact TK.kk hT rfl | exact TK.r hT rfl | assumption) rfl rfl ?_
      refine m_tfY hT ?_
      refine Cont.v ?_
      refine wp_ifneT rfl (by decide) ?_
      obtain ⟨G, hG⟩ : ∃ G, G = up2 (up2 J 318 14 (nI rq.2.2)) 318 0 (nI 1) := ⟨_, rfl⟩
      rw [← hG]
      have hGa : ∀ a, a ≠ 318 → a ≠ 319 → a ≠ 321 → G a = I a := fun a a1 a2 a3 => by rw [hG, up2_row a1, up2_row a1]; exact (hJ.1 a a1 a2).trans (hEa a a3)
      have hG1 : ∀ j, j < 1332 → G 321 j = I 319 j := fun j hj => by rw [hG, up2_row (by decide), up2_row (by decide), hJ.1 321 (by decide) (by decide)]; exact hE1 j hj
      refine wp_iconst (v := nI 0) (pc' := 91) rfl rfl rfl ?_
      refine wp_istore2 (pc' := 92) rfl (by first | rfl | assumption) rfl ?_
      have lp92 : ∀ rb (j : Nat), j + rb = 1332 → WP (d + 9) F_219 92 [.ref 318, .int (-1), .int (nI j)] [] (K, upr G 319 (cpy j (G 321) (G 319)), L, R, n, s) Q := by
        intro rb; induction rb with
        | zero =>
          intro j hib 
          have hi2b : j = 1332 := by omega
          subst hi2b
          refine wp_iload2 (pc' := 93) rfl rfl ?_
          refine wp_sipush (v := nI 1332) (pc' := 96) rfl rfl rfl ?_
          refine wp_icmpgeT rfl (nI_nlt (by omega) (by omega)) ?_
          refine wp_iconst (v := nI 0) (pc' := 118) rfl rfl rfl ?_
          refine wp_iret rfl rfl rfl ?_
          exact kk _ ⟨fun a a1 a2 a3 => (upr_ne a2).trans (hGa a a1 a2 a3), fun j hj => by rw [upr_ne (by decide), hG, up2_same, if_neg (by omega), up2_same, if_neg (by omega), hJ.2.1 j hj, hEa 318 (by decide)], by rw [upr_ne (by decide), hG, up2_hit], by rw [upr_ne (by decide), hG, up2_same, if_neg (by decide), up2_same, if_neg (by decide)]; exact hJ.2.2.2.1, by rw [upr_ne (by decide), hG, up2_same, if_neg (by decide), up2_hit], fun j hj => by rw [upr_same, cpy_lt hj]; exact hG1 j hj⟩
        | succ rb ihb =>
          intro j hib 
          have hltb : j < 1332 := by omega
          refine wp_iload2 (pc' := 93) rfl rfl ?_
          refine wp_sipush (v := nI 1332) (pc' := 96) rfl rfl rfl ?_
          refine wp_icmpgeF (pc' := 99) rfl (nI_lt (by omega) (by omega)) rfl ?_
          refine wp_aload0 (pc' := 100) rfl rfl ?_
          refine wp_getRF (pc' := 103) rfl rfl (by first | exact TK.k1 hT rfl | exact TK.kk hT rfl | exact TK.r hT rfl | assumption) (by first | exact TK.k1 hT rfl | exact TK.kk hT rfl | exact TK.r hT rfl | assumption) rfl ?_
          refine wp_iload2 (pc' := 104) rfl rfl ?_
          refine wp_aload0 (pc' := 105) rfl rfl ?_
          refine wp_getRF (pc' := 108) rfl rfl (by first | exact TK.k1 hT rfl | exact TK.kk hT rfl | exact TK.r hT rfl | assumption) (by first | exact TK.k1 hT rfl | exact TK.kk hT rfl | exact TK.r hT rfl | assumption) rfl ?_
          refine wp_iload2 (pc' := 109) rfl rfl ?_
          refine wp_iald _ (pc' := 110) rfl (by first | exact TK.k1 hT rfl | exact TK.kk hT rfl | exact TK.r hT rfl | assumption) (by with_reducible rfl) (by omega) (by first | decide | assumption | omega) rfl ?_
          refine wp_iast _ (pc' := 111) rfl (by first | exact TK.k1 hT rfl | exact TK.kk hT rfl | exact TK.r hT rfl | assumption) (by omega) (by with_reducible rfl) (by omega) (by first | decide | assumption | omega) rfl ?_
          first | refine wp_iinc2 (w := nI 1) (pc' := 114) rfl rfl rfl (by with_reducible exact nI_add _ _) rfl ?_ | refine wp_iinc2 (w := nI 1) (pc' := 114) rfl rfl rfl rfl rfl ?_
          refine wp_goto rfl ?_
          exact WP.cg (ihb (j + 1) (by omega)) (lC1 (lI1 (by rfl) (lI1 (by rfl) rfl))) rfl (by rw [up2_upr, upr_ne (show (321 : Nat) ≠ 319 by decide)]; exact congrArg (fun r => (K, upr G 319 r, L, R, n, s)) (cpy_up (f := G 321)))
      exact WP.cg (lp92 (1332 - (0)) (0) (by omega)) (lC1 (lI1 (by rfl) (lI1 (by rfl) rfl))) rfl (by rw [cpy_0, upr_id])
    | succ r ih =>
      intro i v2 hi hv0
      have hlt : i < 1332 := by omega
      refine wp_iload1 (pc' := 3) rfl rfl ?_
      refine wp_sipush (v := nI 1332) (pc' := 6) rfl rfl rfl ?_
      refine wp_icmpgeF (pc' := 9) rfl (nI_lt (by omega) (by omega)) rfl ?_
      refine wp_aload0 (pc' := 10) rfl rfl ?_
      refine wp_getRF (pc' := 13) rfl rfl (by first | exact TK.k1 hT rfl | exact TK.kk hT rfl | exact TK.r hT rfl | assumption) (by first | exact TK.k1 hT rfl | exact TK.kk hT rfl | exact TK.r hT rfl | assumption) rfl ?_
      refine wp_iload1 (pc' := 14) rfl rfl ?_
      refine wp_aload0 (pc' := 15) rfl rfl ?_
      refine wp_getRF (pc' := 18) rfl rfl (by first | exact TK.k1 hT rfl | exact TK.kk hT rfl | exact TK.r hT rfl | assumption) (by first | exact TK.k1 hT rfl | exact TK.kk hT rfl | exact TK.r hT rfl | assumption) rfl ?_
      refine wp_iload1 (pc' := 19) rfl rfl ?_
      refine wp_iald _ (pc' := 20) rfl (by first | exact TK.k1 hT rfl | exact TK.kk hT rfl | exact TK.r hT rfl | assumption) (by with_reducible rfl) (by omega) (by first | decide | assumption | omega) rfl ?_
      refine wp_iast _ (pc' := 21) rfl (by first | exact TK.k1 hT rfl | exact TK.kk hT rfl | exact TK.r hT rfl | assumption) (by omega) (by with_reducible rfl) (by omega) (by first | decide | assumption | omega) rfl ?_
      first | refine wp_iinc1 (w := nI 1) (pc' := 24) rfl rfl rfl (by with_reducible exact nI_add _ _) rfl ?_ | refine wp_iinc1 (w := nI 1) (pc' := 24) rfl rfl rfl rfl rfl ?_
      refine wp_goto rfl ?_
      exact WP.cg (ih (i + 1) _ (by omega) (by first | rfl | assumption)) (lC1 (lI1 (by rfl) (lC1 rfl))) rfl (by rw [up2_upr, upr_ne (show (319 : Nat) ≠ 321 by decide)]; exact congrArg (fun r => (K, upr I 321 r, L, R, n, s)) (cpy_up (f := I 319)))
  exact WP.cg (lp2 (1332 - (0)) (0) _ (by omega) (by first | rfl | assumption)) (lC1 (lI1 (by rfl) (lC1 rfl))) rfl (by rw [cpy_0, upr_id])
theorem m_bogE2 {d : Nat} {K : Nat → Nat × Nat} {I : Nat → Nat → Int32} {L : Nat → Nat → Int64} {R : Nat → Nat → Option Nat} {n s : Nat} {Q : Lo → Lm → Prop} {T H0_ : Nat} {tv : Nat → Nat} {rq : Bool × (Nat → Int32) × Nat} (hT : TK K R n) (h9 : I 318 9 = nI T) (hT4 : T ≤ 400) (htp : TpW (I 324) tv) (hS : SS K I R) (hw : I 319 0 = nI H0_) (hH06 : H0_ ≤ 6) (hrq : wlBog tv T (I 319) (skp tv T 0) = rq) (hrt : rq.1 = true) (h12t : rq.2.1 1 = nI 12) (kk : ∀ J, BgE 2 (-1) I J → Q (.inl (some (.int (nI 0)))) (K, J, L, R, n, s)) : Ok (d + 10) 219 [.ref 318] (K, I, L, R, n, s) Q := by
  obtain ⟨-, -, hn⟩ := id hT
  refine Ok.enter (F := F_219) (ls := [.ref 318, lDead, lDead]) rfl rfl ?_
  refine wp_iconst (v := nI 0) (pc' := 1) rfl rfl rfl ?_
  refine wp_istore1 (pc' := 2) rfl (by first | rfl | assumption) rfl ?_
  have lp2 : ∀ r (i : Nat) (v2 : Value), i + r = 1332 → isL v2 = false → WP (d + 9) F_219 2 [.ref 318, .int (nI i), v2] [] (K, upr I 321 (cpy i (I 319) (I 321)), L, R, n, s) Q := by
    intro r; induction r with
    | zero =>
      intro i v2 hi hv0
      have hi2 : i = 1332 := by omega
      subst hi2
      refine wp_iload1 (pc' := 3) rfl rfl ?_
      refine wp_sipush (v := nI 1332) (pc' := 6) rfl rfl rfl ?_
      refine wp_icmpgeT rfl (nI_nlt (by omega) (by omega)) ?_
      refine wp_aload0 (pc' := 28) rfl rfl ?_
      refine wp_iconst (v := nI 1) (pc' := 29) rfl rfl rfl ?_
      refine wp_callV2 (pc' := 32) rfl rfl rfl rfl rfl (by first | exact TK.k1 hT rfl | exact TK.kk hT rfl | exact TK.r hT rfl | assumption) rfl rfl ?_
      obtain ⟨E, hE⟩ : ∃ E, E = upr I 321 (cpy 1332 (I 319) (I 321)) := ⟨_, rfl⟩
      rw [← hE]
      have hEa : ∀ a, a ≠ 321 → E a = I a := fun a ha => by rw [hE]; exact upr_ne ha
      have hE1 : ∀ j, j < 1332 → E 321 j = I 319 j := fun j hj => by rw [hE, upr_same]; exact cpy_lt hj
      refine m_allB (rq := rq) hT (by rw [hEa 318 (by decide)]; exact h9) hT4 (by rw [hEa 324 (by decide)]; exact htp) (SS_off hS (fun a ha => hEa a (by unfold lmB at ha; omega))) (by rw [hEa 319 (by decide)]; exact hw) hH06 (by rw [hEa 319 (by decide)]; exact hrq) (fun x J hJ hx1 hx0 => ?_)
      obtain ⟨y, hy, rfl⟩ := hx1 hrt
      have hJ9 := hJ.2.2.2.2.1 hrt
      refine Cont.v ?_
      refine wp_istore1 (pc' := 33) rfl (by first | rfl | assumption) rfl ?_
      refine wp_aload0 (pc' := 34) rfl rfl ?_
      refine wp_iload1 (pc' := 35) rfl rfl ?_
      refine wp_ifgeT rfl (nI_pos (by omega)) ?_
      refine wp_iconst (v := (-1)) (pc' := 46) rfl rfl rfl ?_
      refine wp_putI (pc' := 49) rfl rfl (by first | exact TK.k1 hT rfl | exact TK.kk hT rfl | exact TK.r hT rfl | assumption) (by omega) rfl ?_
      refine wp_aload0 (pc' := 50) rfl rfl ?_
      refine wp_iload1 (pc' := 51) rfl rfl ?_
      refine wp_ifgeT rfl (nI_pos (by omega)) ?_
      refine wp_iconst (v := nI 0) (pc' := 59) rfl rfl rfl ?_
      refine wp_iconst (v := nI 1) (pc' := 60) rfl rfl rfl ?_
      refine wp_callV3 (pc' := 63) rfl rfl rfl rfl rfl (by first | exact TK.k1 hT rfl | exact TK.kk hT rfl | exact TK.r hT rfl | assumption) rfl rfl ?_
      refine m_tfN hT ?_
      refine Cont.v ?_
      refine wp_ifneF (pc' := 66) rfl rfl rfl ?_
      refine wp_aload0 (pc' := 67) rfl rfl ?_
      refine wp_aload0 (pc' := 68) rfl rfl ?_
      refine wp_getRF (pc' := 71) rfl rfl (by first | exact TK.k1 hT rfl | exact TK.kk hT rfl | exact TK.r hT rfl | assumption) (by first | exact TK.k1 hT rfl | exact TK.kk hT rfl | exact TK.r hT rfl | assumption) rfl ?_
      refine wp_iconst (v := nI 1) (pc' := 72) rfl rfl rfl ?_
      refine wp_iald _ (pc' := 73) rfl (by first | exact TK.k1 hT rfl | exact TK.kk hT rfl | exact TK.r hT rfl | assumption) (by with_reducible rfl) (by omega) (by first | decide | assumption | omega) rfl ?_
      rw [up2_row (by decide), hJ9]
      refine wp_bipush (v := nI 12) (pc' := 75) rfl rfl rfl ?_
      refine wp_icmpneF (pc' := 78) rfl h12t rfl ?_
      refine wp_iconst (v := nI 1) (pc' := 79) rfl rfl rfl ?_
      refine wp_goto rfl ?_
      refine wp_iconst (v := nI 2) (pc' := 84) rfl rfl rfl ?_
      refine wp_callV3 (pc' := 87) rfl rfl rfl rfl rfl (by first | exact TK.k1 hT rfl | exact TK.kk hT rfl | exact TK.r hT rfl | assumption) rfl rfl ?_
      refine m_tfY hT ?_
      refine Cont.v ?_
      refine wp_ifeqF (pc' := 90) rfl (by decide) rfl ?_
      obtain ⟨G, hG⟩ : ∃ G, G = up2 (up2 J 318 14 (-1)) 318 0 (nI 2) := ⟨_, rfl⟩
      rw [← hG]
      have hGa : ∀ a, a ≠ 318 → a ≠ 319 → a ≠ 321 → G a = I a := fun a a1 a2 a3 => by rw [hG, up2_row a1, up2_row a1]; exact (hJ.1 a a1 a2).trans (hEa a a3)
      have hG1 : ∀ j, j < 1332 → G 321 j = I 319 j := fun j hj => by rw [hG, up2_row (by decide), up2_row (by decide), hJ.1 321 (by decide) (by decide)]; exact hE1 j hj
      refine wp_iconst (v := nI 0) (pc' := 91) rfl rfl rfl ?_
      refine wp_istore2 (pc' := 92) rfl (by first | rfl | assumption) rfl ?_
      have lp92 : ∀ rb (j : Nat), j + rb = 1332 → WP (d + 9) F_219 92 [.ref 318, .int (nI y), .int (nI j)] [] (K, upr G 319 (cpy j (G 321) (G 319)), L, R, n, s) Q := by
        intro rb; induction rb with
        | zero =>
          intro j hib 
          have hi2b : j = 1332 := by omega
          subst hi2b
          refine wp_iload2 (pc' := 93) rfl rfl ?_
          refine wp_sipush (v := nI 1332) (pc' := 96) rfl rfl rfl ?_
          refine wp_icmpgeT rfl (nI_nlt (by omega) (by omega)) ?_
          refine wp_iconst (v := nI 0) (pc' := 118) rfl rfl rfl ?_
          refine wp_iret rfl rfl rfl ?_
          exact kk _ ⟨fun a a1 a2 a3 => (upr_ne a2).trans (hGa a a1 a2 a3), fun j hj => by rw [upr_ne (by decide), hG, up2_same, if_neg (by omega), up2_same, if_neg (by omega), hJ.2.1 j hj, hEa 318 (by decide)], by rw [upr_ne (by decide), hG, up2_hit], by rw [upr_ne (by decide), hG, up2_same, if_neg (by decide), up2_same, if_neg (by decide)]; exact hJ.2.2.2.1, by rw [upr_ne (by decide), hG, up2_same, if_neg (by decide), up2_hit], fun j hj => by rw [upr_same, cpy_lt hj]; exact hG1 j hj⟩
        | succ rb ihb =>
          intro j hib 
          have hltb : j < 1332 := by omega
          refine wp_iload2 (pc' := 93) rfl rfl ?_
          refine wp_sipush (v := nI 1332) (pc' := 96) rfl rfl rfl ?_
          refine wp_icmpgeF (pc' := 99) rfl (nI_lt (by omega) (by omega)) rfl ?_
          refine wp_aload0 (pc' := 100) rfl rfl ?_
          refine wp_getRF (pc' := 103) rfl rfl (by first | exact TK.k1 hT rfl | exact TK.kk hT rfl | exact TK.r hT rfl | assumption) (by first | exact TK.k1 hT rfl | exact TK.kk hT rfl | exact TK.r hT rfl | assumption) rfl ?_
          refine wp_iload2 (pc' := 104) rfl rfl ?_
          refine wp_aload0 (pc' := 105) rfl rfl ?_
          refine wp_getRF (pc' := 108) rfl rfl (by first | exact TK.k1 hT rfl | exact TK.kk hT rfl | exact TK.r hT rfl | assumption) (by first | exact TK.k1 hT rfl | exact TK.kk hT rfl | exact TK.r hT rfl | assumption) rfl ?_
          refine wp_iload2 (pc' := 109) rfl rfl ?_
          refine wp_iald _ (pc' := 110) rfl (by first | exact TK.k1 hT rfl | exact TK.kk hT rfl | exact TK.r hT rfl | assumption) (by with_reducible rfl) (by omega) (by first | decide | assumption | omega) rfl ?_
          refine wp_iast _ (pc' := 111) rfl (by first | exact TK.k1 hT rfl | exact TK.kk hT rfl | exact TK.r hT rfl | assumption) (by omega) (by with_reducible rfl) (by omega) (by first | decide | assumption | omega) rfl ?_
          first | refine wp_iinc2 (w := nI 1) (pc' := 114) rfl rfl rfl (by with_reducible exact nI_add _ _) rfl ?_ | refine wp_iinc2 (w := nI 1) (pc' := 114) rfl rfl rfl rfl rfl ?_
          refine wp_goto rfl ?_
          exact WP.cg (ihb (j + 1) (by omega)) (lC1 (lI1 (by rfl) (lI1 (by rfl) rfl))) rfl (by rw [up2_upr, upr_ne (show (321 : Nat) ≠ 319 by decide)]; exact congrArg (fun r => (K, upr G 319 r, L, R, n, s)) (cpy_up (f := G 321)))
      exact WP.cg (lp92 (1332 - (0)) (0) (by omega)) (lC1 (lI1 (by rfl) (lI1 (by rfl) rfl))) rfl (by rw [cpy_0, upr_id])
    | succ r ih =>
      intro i v2 hi hv0
      have hlt : i < 1332 := by omega
      refine wp_iload1 (pc' := 3) rfl rfl ?_
      refine wp_sipush (v := nI 1332) (pc' := 6) rfl rfl rfl ?_
      refine wp_icmpgeF (pc' := 9) rfl (nI_lt (by omega) (by omega)) rfl ?_
      refine wp_aload0 (pc' := 10) rfl rfl ?_
      refine wp_getRF (pc' := 13) rfl rfl (by first | exact TK.k1 hT rfl | exact TK.kk hT rfl | exact TK.r hT rfl | assumption) (by first | exact TK.k1 hT rfl | exact TK.kk hT rfl | exact TK.r hT rfl | assumption) rfl ?_
      refine wp_iload1 (pc' := 14) rfl rfl ?_
      refine wp_aload0 (pc' := 15) rfl rfl ?_
      refine wp_getRF (pc' := 18) rfl rfl (by first | exact TK.k1 hT rfl | exact TK.kk hT rfl | exact TK.r hT rfl | assumption) (by first | exact TK.k1 hT rfl | exact TK.kk hT rfl | exact TK.r hT rfl | assumption) rfl ?_
      refine wp_iload1 (pc' := 19) rfl rfl ?_
      refine wp_iald _ (pc' := 20) rfl (by first | exact TK.k1 hT rfl | exact TK.kk hT rfl | exact TK.r hT rfl | assumption) (by with_reducible rfl) (by omega) (by first | decide | assumption | omega) rfl ?_
      refine wp_iast _ (pc' := 21) rfl (by first | exact TK.k1 hT rfl | exact TK.kk hT rfl | exact TK.r hT rfl | assumption) (by omega) (by with_reducible rfl) (by omega) (by first | decide | assumption | omega) rfl ?_
      first | refine wp_iinc1 (w := nI 1) (pc' := 24) rfl rfl rfl (by with_reducible exact nI_add _ _) rfl ?_ | refine wp_iinc1 (w := nI 1) (pc' := 24) rfl rfl rfl rfl rfl ?_
      refine wp_goto rfl ?_
      exact WP.cg (ih (i + 1) _ (by omega) (by first | rfl | assumption)) (lC1 (lI1 (by rfl) (lC1 rfl))) rfl (by rw [up2_upr, upr_ne (show (319 : Nat) ≠ 321 by decide)]; exact congrArg (fun r => (K, upr I 321 r, L, R, n, s)) (cpy_up (f := I 319)))
  exact WP.cg (lp2 (1332 - (0)) (0) _ (by omega) (by first | rfl | assumption)) (lC1 (lI1 (by rfl) (lC1 rfl))) rfl (by rw [cpy_0, upr_id])
theorem m_bogY {d : Nat} {K : Nat → Nat × Nat} {I : Nat → Nat → Int32} {L : Nat → Nat → Int64} {R : Nat → Nat → Option Nat} {n s : Nat} {Q : Lo → Lm → Prop} {T H0_ : Nat} {tv : Nat → Nat} {rq : Bool × (Nat → Int32) × Nat} (hT : TK K R n) (h9 : I 318 9 = nI T) (hT4 : T ≤ 400) (htp : TpW (I 324) tv) (hS : SS K I R) (hw : I 319 0 = nI H0_) (hH06 : H0_ ≤ 6) (hrq : wlBog tv T (I 319) (skp tv T 0) = rq) (hrt : rq.1 = true) (h12t : ¬ rq.2.1 1 = nI 12) (kk : ∀ J, BgY (up1 rq.2.1 1 (rq.2.1 1 + nI 1)) I J → Q (.inl (some (.int (rq.2.1 1 + nI 1)))) (K, J, L, R, n, s)) : Ok (d + 10) 219 [.ref 318] (K, I, L, R, n, s) Q := by
  obtain ⟨-, -, hn⟩ := id hT
  refine Ok.enter (F := F_219) (ls := [.ref 318, lDead, lDead]) rfl rfl ?_
  refine wp_iconst (v := nI 0) (pc' := 1) rfl rfl rfl ?_
  refine wp_istore1 (pc' := 2) rfl (by first | rfl | assumption) rfl ?_
  have lp2 : ∀ r (i : Nat) (v2 : Value), i + r = 1332 → isL v2 = false → WP (d + 9) F_219 2 [.ref 318, .int (nI i), v2] [] (K, upr I 321 (cpy i (I 319) (I 321)), L, R, n, s) Q := by
    intro r; induction r with
    | zero =>
      intro i v2 hi hv0
      have hi2 : i = 1332 := by omega
      subst hi2
      refine wp_iload1 (pc' := 3) rfl rfl ?_
      refine wp_sipush (v := nI 1332) (pc' := 6) rfl rfl rfl ?_
      refine wp_icmpgeT rfl (nI_nlt (by omega) (by omega)) ?_
      refine wp_aload0 (pc' := 28) rfl rfl ?_
      refine wp_iconst (v := nI 1) (pc' := 29) rfl rfl rfl ?_
      refine wp_callV2 (pc' := 32) rfl rfl rfl rfl rfl (by first | exact TK.k1 hT rfl | exact TK.kk hT rfl | exact TK.r hT rfl | assumption) rfl rfl ?_
      obtain ⟨E, hE⟩ : ∃ E, E = upr I 321 (cpy 1332 (I 319) (I 321)) := ⟨_, rfl⟩
      rw [← hE]
      have hEa : ∀ a, a ≠ 321 → E a = I a := fun a ha => by rw [hE]; exact upr_ne ha
      have hE1 : ∀ j, j < 1332 → E 321 j = I 319 j := fun j hj => by rw [hE, upr_same]; exact cpy_lt hj
      refine m_allB (rq := rq) hT (by rw [hEa 318 (by decide)]; exact h9) hT4 (by rw [hEa 324 (by decide)]; exact htp) (SS_off hS (fun a ha => hEa a (by unfold lmB at ha; omega))) (by rw [hEa 319 (by decide)]; exact hw) hH06 (by rw [hEa 319 (by decide)]; exact hrq) (fun x J hJ hx1 hx0 => ?_)
      obtain ⟨y, hy, rfl⟩ := hx1 hrt
      have hJ9 := hJ.2.2.2.2.1 hrt
      refine Cont.v ?_
      refine wp_istore1 (pc' := 33) rfl (by first | rfl | assumption) rfl ?_
      refine wp_aload0 (pc' := 34) rfl rfl ?_
      refine wp_iload1 (pc' := 35) rfl rfl ?_
      refine wp_ifgeT rfl (nI_pos (by omega)) ?_
      refine wp_iconst (v := (-1)) (pc' := 46) rfl rfl rfl ?_
      refine wp_putI (pc' := 49) rfl rfl (by first | exact TK.k1 hT rfl | exact TK.kk hT rfl | exact TK.r hT rfl | assumption) (by omega) rfl ?_
      refine wp_aload0 (pc' := 50) rfl rfl ?_
      refine wp_iload1 (pc' := 51) rfl rfl ?_
      refine wp_ifgeT rfl (nI_pos (by omega)) ?_
      refine wp_iconst (v := nI 0) (pc' := 59) rfl rfl rfl ?_
      refine wp_iconst (v := nI 1) (pc' := 60) rfl rfl rfl ?_
      refine wp_callV3 (pc' := 63) rfl rfl rfl rfl rfl (by first | exact TK.k1 hT rfl | exact TK.kk hT rfl | exact TK.r hT rfl | assumption) rfl rfl ?_
      refine m_tfN hT ?_
      refine Cont.v ?_
      refine wp_ifneF (pc' := 66) rfl rfl rfl ?_
      refine wp_aload0 (pc' := 67) rfl rfl ?_
      refine wp_aload0 (pc' := 68) rfl rfl ?_
      refine wp_getRF (pc' := 71) rfl rfl (by first | exact TK.k1 hT rfl | exact TK.kk hT rfl | exact TK.r hT rfl | assumption) (by first | exact TK.k1 hT rfl | exact TK.kk hT rfl | exact TK.r hT rfl | assumption) rfl ?_
      refine wp_iconst (v := nI 1) (pc' := 72) rfl rfl rfl ?_
      refine wp_iald _ (pc' := 73) rfl (by first | exact TK.k1 hT rfl | exact TK.kk hT rfl | exact TK.r hT rfl | assumption) (by with_reducible rfl) (by omega) (by first | decide | assumption | omega) rfl ?_
      rw [up2_row (by decide), hJ9]
      refine wp_bipush (v := nI 12) (pc' := 75) rfl rfl rfl ?_
      refine wp_icmpneT rfl h12t ?_
      refine wp_iconst (v := nI 0) (pc' := 83) rfl rfl rfl ?_
      refine wp_iconst (v := nI 2) (pc' := 84) rfl rfl rfl ?_
      refine wp_callV3 (pc' := 87) rfl rfl rfl rfl rfl (by first | exact TK.k1 hT rfl | exact TK.kk hT rfl | exact TK.r hT rfl | assumption) rfl rfl ?_
      refine m_tfN hT ?_
      refine Cont.v ?_
      refine wp_ifeqT rfl rfl ?_
      refine wp_aload0 (pc' := 120) rfl rfl ?_
      refine wp_getRF (pc' := 123) rfl rfl (by first | exact TK.k1 hT rfl | exact TK.kk hT rfl | exact TK.r hT rfl | assumption) (by first | exact TK.k1 hT rfl | exact TK.kk hT rfl | exact TK.r hT rfl | assumption) rfl ?_
      refine wp_iconst (v := nI 1) (pc' := 124) rfl rfl rfl ?_
      refine wp_dup2 (pc' := 125) rfl rfl rfl rfl ?_
      refine wp_iald _ (pc' := 126) rfl (by first | exact TK.k1 hT rfl | exact TK.kk hT rfl | exact TK.r hT rfl | assumption) (by with_reducible rfl) (by omega) (by first | decide | assumption | omega) rfl ?_
      rw [up2_row (by decide), hJ9]
      refine wp_iconst (v := nI 1) (pc' := 127) rfl rfl rfl ?_
      first | refine wp_iaddN (pc' := 128) rfl (by with_reducible rfl) (by with_reducible rfl) rfl ?_ | refine wp_iadd (pc' := 128) rfl rfl ?_
      refine wp_iast _ (pc' := 129) rfl (by first | exact TK.k1 hT rfl | exact TK.kk hT rfl | exact TK.r hT rfl | assumption) (by omega) (by with_reducible rfl) (by omega) (by first | decide | assumption | omega) rfl ?_
      refine wp_aload0 (pc' := 130) rfl rfl ?_
      refine wp_iconst (v := nI 0) (pc' := 131) rfl rfl rfl ?_
      refine wp_putI (pc' := 134) rfl rfl (by first | exact TK.k1 hT rfl | exact TK.kk hT rfl | exact TK.r hT rfl | assumption) (by omega) rfl ?_
      refine wp_aload0 (pc' := 135) rfl rfl ?_
      refine wp_getRF (pc' := 138) rfl rfl (by first | exact TK.k1 hT rfl | exact TK.kk hT rfl | exact TK.r hT rfl | assumption) (by first | exact TK.k1 hT rfl | exact TK.kk hT rfl | exact TK.r hT rfl | assumption) rfl ?_
      refine wp_iconst (v := nI 1) (pc' := 139) rfl rfl rfl ?_
      refine wp_iald _ (pc' := 140) rfl (by first | exact TK.k1 hT rfl | exact TK.kk hT rfl | exact TK.r hT rfl | assumption) (by with_reducible rfl) (by omega) (by first | decide | assumption | omega) rfl ?_
      rw [up2_row (by decide), up2_hit]
      refine wp_iret rfl rfl rfl ?_
      refine kk _ ⟨fun a a1 a2 a3 => ?_, ?_, up2_hit, ?_, ?_, ?_, ?_⟩
      · rw [up2_row a1, up2_row a2, up2_row a1]; exact (hJ.1 a a1 a2).trans (hEa a a3)
      · rw [up2_same, if_neg (by decide), up2_row (by decide), up2_same, if_neg (by decide), hJ.2.1 6 (by decide), hEa 318 (by decide)]
      · rw [up2_same, if_neg (by decide), up2_row (by decide), up2_same, if_neg (by decide)]; exact hJ.2.2.1
      · rw [up2_same, if_neg (by decide), up2_row (by decide), up2_same, if_neg (by decide)]; exact hJ.2.2.2.1
      · rw [up2_same, if_neg (by decide), up2_row (by decide), up2_hit]
      · rw [up2_row (by decide), up2_as, upr_same, up2_row (by decide), hJ9]
    | succ r ih =>
      intro i v2 hi hv0
      have hlt : i < 1332 := by omega
      refine wp_iload1 (pc' := 3) rfl rfl ?_
      refine wp_sipush (v := nI 1332) (pc' := 6) rfl rfl rfl ?_
      refine wp_icmpgeF (pc' := 9) rfl (nI_lt (by omega) (by omega)) rfl ?_
      refine wp_aload0 (pc' := 10) rfl rfl ?_
      refine wp_getRF (pc' := 13) rfl rfl (by first | exact TK.k1 hT rfl | exact TK.kk hT rfl | exact TK.r hT rfl | assumption) (by first | exact TK.k1 hT rfl | exact TK.kk hT rfl | exact TK.r hT rfl | assumption) rfl ?_
      refine wp_iload1 (pc' := 14) rfl rfl ?_
      refine wp_aload0 (pc' := 15) rfl rfl ?_
      refine wp_getRF (pc' := 18) rfl rfl (by first | exact TK.k1 hT rfl | exact TK.kk hT rfl | exact TK.r hT rfl | assumption) (by first | exact TK.k1 hT rfl | exact TK.kk hT rfl | exact TK.r hT rfl | assumption) rfl ?_
      refine wp_iload1 (pc' := 19) rfl rfl ?_
      refine wp_iald _ (pc' := 20) rfl (by first | exact TK.k1 hT rfl | exact TK.kk hT rfl | exact TK.r hT rfl | assumption) (by with_reducible rfl) (by omega) (by first | decide | assumption | omega) rfl ?_
      refine wp_iast _ (pc' := 21) rfl (by first | exact TK.k1 hT rfl | exact TK.kk hT rfl | exact TK.r hT rfl | assumption) (by omega) (by with_reducible rfl) (by omega) (by first | decide | assumption | omega) rfl ?_
      first | refine wp_iinc1 (w := nI 1) (pc' := 24) rfl rfl rfl (by with_reducible exact nI_add _ _) rfl ?_ | refine wp_iinc1 (w := nI 1) (pc' := 24) rfl rfl rfl rfl rfl ?_
      refine wp_goto rfl ?_
      exact WP.cg (ih (i + 1) _ (by omega) (by first | rfl | assumption)) (lC1 (lI1 (by rfl) (lC1 rfl))) rfl (by rw [up2_upr, upr_ne (show (319 : Nat) ≠ 321 by decide)]; exact congrArg (fun r => (K, upr I 321 r, L, R, n, s)) (cpy_up (f := I 319)))
  exact WP.cg (lp2 (1332 - (0)) (0) _ (by omega) (by first | rfl | assumption)) (lC1 (lI1 (by rfl) (lC1 rfl))) rfl (by rw [cpy_0, upr_id])
