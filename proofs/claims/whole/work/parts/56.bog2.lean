/-! A TEXT OF THE BOG, read whole -/
def Upd (I J : Mem) : Prop := (∀ a, (a < 13 ∨ 25 ≤ a) → J a = I a) ∧ (Nrm (vw 13 I) → Nrm (vw 13 J)) ∧ (J 13 14 = I 13 14 ∨ J 13 14 = nI 1)
theorem Upd_r {I : Mem} : Upd I I := ⟨fun _ _ => rfl, id, Or.inl rfl⟩
theorem Upd_u {I J : Mem} {k j : Nat} {v : Int32} (h : Upd I J) (hk : k < 12) (hj : inS k j = true) (h14 : k ≠ 0 ∨ j ≠ 14) : Upd I (up2 J (13 + k) j v) := by
  refine ⟨fun a ha => (up2_row (by omega)).trans (h.1 a ha), fun hN => Nrm_up2 (h.2.1 hN) hj, ?_⟩
  have : up2 J (13 + k) j v 13 14 = J 13 14 := by
    by_cases e : k = 0
    · subst e
      show up2 J 13 j v 13 14 = _
      rw [up2_same, if_neg (by omega)]
    · rw [up2_row (by omega)]
  rw [this]; exact h.2.2
def LOk (T : Nat) (I : Mem) (r : Bool × Mem × Nat) : Prop := Upd I r.2.1 ∧ r.2.2 ≤ T ∧ ∃ H, H ≤ 6 ∧ r.2.1 13 10 = nI H
theorem LOk_f {T p H : Nat} {I : Mem} {b : Bool} (hp : p ≤ T) (hH : I 13 10 = nI H) (hH6 : H ≤ 6) : LOk T I (b, I, p) := ⟨Upd_r, hp, H, hH6, hH⟩
theorem LOk_i {T q H : Nat} {I J : Mem} {b : Bool} (h1 : Upd I J) (h2 : q ≤ T) (h3 : H ≤ 6) (h4 : J 13 10 = nI H) : LOk T I (b, J, q) := ⟨h1, h2, H, h3, h4⟩
theorem h10 {J : Mem} {k j : Nat} {v : Int32} (h : k ≠ 0 ∨ j ≠ 10) : up2 J (13 + k) j v 13 10 = J 13 10 := by
  by_cases e : k = 0
  · subst e
    show up2 J 13 j v 13 10 = _
    rw [up2_same, if_neg (by omega)]
  · rw [up2_row (by omega)]
theorem rowF_ok {tv : Nat → Nat} {T k H : Nat} {I0 : Mem} (hk : k = 1 ∨ k = 2) (hH6 : H ≤ 6) : ∀ f c I p, c + f = 25 → p ≤ T → Upd I0 I → I 13 10 = nI H → Upd I0 (rowF tv T (13 + k) f c I p).2.1 ∧ (rowF tv T (13 + k) f c I p).2.2 ≤ T ∧ (rowF tv T (13 + k) f c I p).2.1 13 10 = nI H
  | 0, c, I, p, _, hp, hU, hH => ⟨hU, hp, hH⟩
  | f + 1, c, I, p, hc, hp, hU, hH => by
    unfold rowF
    by_cases h : numV (numR tv T p (nI 0) (nI 9)) = -1
    · rw [num_none hp h]; exact ⟨hU, hp, hH⟩
    · obtain ⟨v, q, e, hv, hlo, hup, hq1, hq2⟩ := num_some hp h
      rw [e]; dsimp only
      have hU2 : Upd I0 (up2 I (13 + k) c (nI v)) := Upd_u hU (by omega) (inS_25 (by omega) (by omega) (by omega)) (Or.inl (by omega))
      have hH2 : up2 I (13 + k) c (nI v) 13 10 = nI H := by rw [h10 (Or.inl (by omega))]; exact hH
      by_cases hd : atDg tv T q
      · rw [if_pos hd]; exact rowF_ok hk hH6 f (c + 1) _ q (by omega) hq2 hU2 hH2
      · rw [if_neg hd]; exact ⟨hU2, hq2, hH2⟩
theorem rowL_ok {tv : Nat → Nat} {T k H p : Nat} {I : Mem} (hk : k = 1 ∨ k = 2) (hH6 : H ≤ 6) (hp : p ≤ T) (hH : I 13 10 = nI H) : LOk T I (rowL tv T (13 + k) I p) := by
  unfold rowL
  by_cases h : numV (numR tv T p (nI 0) (nI 24)) = -1
  · rw [num_none hp h]; exact LOk_f hp hH hH6
  · obtain ⟨v, q, e, hv, hlo, hup, hq1, hq2⟩ := num_some hp h
    rw [e]; dsimp only
    have hv24 := ge_nI hup (by omega)
    have := rowF_ok (tv := tv) (T := T) (I0 := I) hk hH6 (25 - v) v I q (by omega) hq2 Upd_r hH
    exact ⟨this.1, this.2.1, H, hH6, this.2.2⟩
theorem drnL_ok {tv : Nat → Nat} {T H p : Nat} {I : Mem} (hH6 : H ≤ 6) (hp : p ≤ T) (hH : I 13 10 = nI H) : LOk T I (drnL tv T I p) := by
  unfold drnL
  have hc := celL_le (tv := tv) hp
  cases e : (celL tv T p).1 with
  | none => exact LOk_f hc.2 hH hH6
  | some x => exact LOk_i (J := up2 I 13 11 (I 13 11 ||| x)) (Upd_u (k := 0) Upd_r (by decide) rfl (Or.inr (by decide))) hc.2 hH6 (by rw [up2_same, if_neg (by decide)]; exact hH)
theorem rgtL_ok {tv : Nat → Nat} {T H p : Nat} {I : Mem} (hH6 : H ≤ 6) (hp : p ≤ T) (hH : I 13 10 = nI H) : LOk T I (rgtL tv T I p) := by
  unfold rgtL
  by_cases h : numV (numR tv T p (nI 0) (I 13 10 - nI 1)) = -1
  · rw [num_none hp h]; exact LOk_f hp hH hH6
  · obtain ⟨v, q, e, hv, hlo, hup, hq1, hq2⟩ := num_some hp h
    rw [e]; dsimp only
    have hvH : v < H := by
      rw [hH] at hup
      by_cases h0 : H = 0
      · subst h0; exact absurd (m1_lt (by omega)) hup
      · rw [nI_sub (by omega)] at hup; have := ge_nI hup (by omega); omega
    have hc := celL_le (tv := tv) hq2
    cases e2 : (celL tv T q).1 with
    | none => exact LOk_f hc.2 hH hH6
    | some x => exact LOk_i (J := up2 I 22 v (I 22 v ||| x)) (Upd_u (k := 9) Upd_r (by decide) (inS_6 (by decide) (by decide) (by omega)) (Or.inl (by decide))) hc.2 hH6 (by rw [up2_row (by decide)]; exact hH)
theorem optN_le {tv : Nat → Nat} {T p up v q : Nat} {w : List Nat} (hp : p ≤ T) (hu : up < 10000) (e : optN tv T p w up = some (v, q)) : q ≤ T ∧ v ≤ up := by
  unfold optN at e
  split at e
  · have ha := (af_ge (tv := tv) hp).2
    by_cases h : numV (numR tv T (af tv T p) (nI 0) (nI up)) = -1
    · rw [num_none ha h] at e; cases e
    · obtain ⟨v', q', e', hv, hlo, hup, hq1, hq2⟩ := num_some ha h
      rw [e'] at e; cases e
      exact ⟨hq2, ge_nI hup (by omega)⟩
  · cases e; exact ⟨hp, Nat.zero_le _⟩
theorem mstN_le {tv : Nat → Nat} {T p up v q : Nat} {lw : Int32} {w : List Nat} (hp : p ≤ T) (hu : up < 10000) (e : mstN tv T p w lw up = some (v, q)) : q ≤ T ∧ v ≤ up ∧ ¬ nI v < lw := by
  unfold mstN at e
  split at e
  · have ha := (af_ge (tv := tv) hp).2
    by_cases h : numV (numR tv T (af tv T p) lw (nI up)) = -1
    · rw [num_none ha h] at e; cases e
    · obtain ⟨v', q', e', hv, hlo, hup, hq1, hq2⟩ := num_some ha h
      rw [e'] at e; cases e
      exact ⟨hq2, ge_nI hup (by omega), hlo⟩
  · cases e
theorem num_le {tv : Nat → Nat} {T p up v q : Nat} {lw : Int32} (hp : p ≤ T) (hu : up < 10000) (e : numR tv T p lw (nI up) = some (v, q)) : q ≤ T ∧ v ≤ up ∧ ¬ nI v < lw := by
  by_cases h : numV (numR tv T p lw (nI up)) = -1
  · rw [num_none hp h] at e; cases e
  · obtain ⟨v', q', e', hv, hlo, hup, hq1, hq2⟩ := num_some hp h
    rw [e'] at e; cases e
    exact ⟨hq2, ge_nI hup (by omega), hlo⟩
theorem turL_ok {tv : Nat → Nat} {T H p : Nat} {I : Mem} (hH6 : H ≤ 6) (hp : p ≤ T) (hH : I 13 10 = nI H) : LOk T I (turL tv T I p) := by
  unfold turL
  cases e : numR tv T p (nI 0) (nI 24) with
  | none => exact LOk_f hp hH hH6
  | some c =>
    obtain ⟨c, q⟩ := c
    obtain ⟨hq, hc, -⟩ := num_le hp (by decide) e
    dsimp only
    cases e2 : numR tv T q (nI 1) (nI 99) with
    | none => exact LOk_f hq hH hH6
    | some m =>
      obtain ⟨m, q1⟩ := m
      obtain ⟨hq1, hm, -⟩ := num_le hq (by decide) e2
      dsimp only
      cases e3 : optN tv T q1 kDry 99 with
      | none => exact LOk_f (afB_le hq1).2 hH hH6
      | some y =>
        obtain ⟨y, q2⟩ := y
        obtain ⟨hq2, hy⟩ := optN_le hq1 (by decide) e3
        exact LOk_i (J := up2 (up2 (up2 I 16 c (nI m)) 17 c (nI y)) 18 c (nI 0)) (Upd_u (k := 5) (Upd_u (k := 4) (Upd_u (k := 3) Upd_r (by decide) (inS_25 (by decide) (by decide) (by omega)) (Or.inl (by decide))) (by decide) (inS_25 (by decide) (by decide) (by omega)) (Or.inl (by decide))) (by decide) (inS_25 (by decide) (by decide) (by omega)) (Or.inl (by decide))) hq2 hH6 (by rw [up2_row (by decide), up2_row (by decide), up2_row (by decide)]; exact hH)
theorem heaL_ok {tv : Nat → Nat} {T H p b0 : Nat} {I : Mem} (hH6 : H ≤ 6) (hb : b0 ≤ T) (hp : p ≤ T) (hH : I 13 10 = nI H) : LOk T I (heaL tv T I b0 p H) := by
  unfold heaL
  by_cases h6 : 6 ≤ H
  · rw [if_pos h6]; exact LOk_f hb hH hH6
  · rw [if_neg h6]
    cases e : mstN tv T p kHands (nI 1) 9 with
    | none => exact LOk_f (afB_le hp).2 hH hH6
    | some c =>
      obtain ⟨c, q⟩ := c
      obtain ⟨hq, hc, -⟩ := mstN_le hp (by decide) e
      dsimp only
      cases e2 : mstN tv T q kNeed (nI 0) 99 with
      | none => exact LOk_f (afB_le hq).2 hH hH6
      | some m =>
        obtain ⟨m, q1⟩ := m
        obtain ⟨hq1, hm, -⟩ := mstN_le hq (by decide) e2
        dsimp only
        cases e3 : optN tv T q1 kStore 999 with
        | none => exact LOk_f (afB_le hq1).2 hH hH6
        | some y =>
          obtain ⟨y, q2⟩ := y
          obtain ⟨hq2, hy⟩ := optN_le hq1 (by decide) e3
          exact LOk_i (H := H + 1) (J := up2 (up2 (up2 (up2 I 19 H (nI c)) 20 H (nI m)) 21 H (nI y)) 13 10 (nI (H + 1))) (Upd_u (k := 0) (Upd_u (k := 8) (Upd_u (k := 7) (Upd_u (k := 6) Upd_r (by decide) (inS_6 (by decide) (by decide) (by omega)) (Or.inl (by decide))) (by decide) (inS_6 (by decide) (by decide) (by omega)) (Or.inl (by decide))) (by decide) (inS_6 (by decide) (by decide) (by omega)) (Or.inl (by decide))) (by decide) rfl (Or.inr (by decide))) hq2 (by omega) up2_hit
theorem skyF_ok {tv : Nat → Nat} {T H p k : Nat} {I : Mem} (hH6 : H ≤ 6) (hp : p ≤ T) (hH : I 13 10 = nI H) : LOk T I (skyF tv T I p k) := by
  unfold skyF
  cases e : numR tv T p (nI 0) (nI (skyT k)) with
  | none => exact LOk_f hp hH hH6
  | some c =>
    obtain ⟨c, q⟩ := c
    obtain ⟨hq, hc, -⟩ := num_le hp (by unfold skyT; split <;> (try split) <;> decide) e
    dsimp only
    have hs : skyC k = 12 ∨ skyC k = 13 ∨ skyC k = 15 := by unfold skyC; split <;> (try split) <;> simp
    exact LOk_i (J := up2 I 13 (skyC k) (nI c)) (Upd_u (k := 0) Upd_r (by decide) (by rcases hs with h | h | h <;> rw [h] <;> rfl) (Or.inr (by omega))) hq hH6 (by rw [up2_same, if_neg (by omega)]; exact hH)
theorem linL_ok {tv : Nat → Nat} {T H p : Nat} {I : Mem} (hH6 : H ≤ 6) (hp : p ≤ T) (hH : I 13 10 = nI H) : LOk T I (linL tv T I p H) := by
  have ha := (af_ge (tv := tv) hp).2
  unfold linL
  split
  · exact LOk_f hp hH hH6
  · exact rowL_ok (k := 1) (Or.inl rfl) hH6 ha hH
  · exact rowL_ok (k := 2) (Or.inr rfl) hH6 ha hH
  · exact drnL_ok hH6 ha hH
  · exact turL_ok hH6 ha hH
  · exact heaL_ok hH6 hp ha hH
  · exact rgtL_ok hH6 ha hH
  · exact LOk_i (J := up2 I 13 14 (nI 1)) ⟨fun a h => up2_row (by omega), fun hN => Nrm_up2 (k := 0) hN rfl, Or.inr up2_hit⟩ ha hH6 (by rw [up2_same, if_neg (by decide)]; exact hH)
  · exact skyF_ok hH6 ha hH
def allL (tv : Nat → Nat) (T : Nat) : Nat → Mem → Nat → Bool × Mem × Nat
  | 0, I, p => (false, I, p)
  | f + 1, I, p => if (linL tv T I p (tn (I 13 10))).1 = true then (if T ≤ (linL tv T I p (tn (I 13 10))).2.2 then linL tv T I p (tn (I 13 10)) else if tv (linL tv T I p (tn (I 13 10))).2.2 = 59 then allL tv T f (linL tv T I p (tn (I 13 10))).2.1 (skp tv T ((linL tv T I p (tn (I 13 10))).2.2 + 1)) else (false, (linL tv T I p (tn (I 13 10))).2)) else linL tv T I p (tn (I 13 10))
def bogA (tv : Nat → Nat) (T : Nat) (I : Mem) (p : Nat) : Bool × Mem × Nat := if T ≤ p then (true, I, p) else allL tv T 14 I p
theorem Upd_t {I J M : Mem} (h : Upd I J) (g : Upd J M) : Upd I M := by
  refine ⟨fun a ha => (g.1 a ha).trans (h.1 a ha), fun hN => g.2.1 (h.2.1 hN), ?_⟩
  rcases g.2.2 with e | e
  · rw [e]; exact h.2.2
  · exact Or.inr e
theorem allL_ok {tv : Nat → Nat} {T : Nat} : ∀ f H p I, H ≤ 6 → p ≤ T → I 13 10 = nI H → LOk T I (allL tv T f I p)
  | 0, H, p, I, hH6, hp, hH => LOk_f hp hH hH6
  | f + 1, H, p, I, hH6, hp, hH => by
    have hl := linL_ok (tv := tv) (I := I) hH6 hp hH
    unfold allL
    rw [show tn (I 13 10) = H by rw [hH]; exact tn_nI (by omega)]
    generalize linL tv T I p H = r at hl ⊢
    obtain ⟨h1, h2, H2, h3, h4⟩ := hl
    by_cases hb : r.1 = true
    · rw [if_pos hb]
      by_cases hd : T ≤ r.2.2
      · rw [if_pos hd]; exact ⟨h1, h2, H2, h3, h4⟩
      · rw [if_neg hd]
        by_cases hs : tv r.2.2 = 59
        · rw [if_pos hs]
          have := allL_ok (tv := tv) (T := T) f H2 (skp tv T (r.2.2 + 1)) r.2.1 h3 (skp_ge (by omega)).2 h4
          exact ⟨Upd_t h1 this.1, this.2⟩
        · rw [if_neg hs]; exact ⟨h1, h2, H2, h3, h4⟩
    · rw [if_neg hb]; exact ⟨h1, h2, H2, h3, h4⟩
theorem RdI_upd {I J : Mem} {T : Nat} {tv : Nat → Nat} (h : RdI I T tv) (u : Upd I J) : RdI J T tv :=
  ⟨by rw [u.1 39 (by omega)]; exact h.1, h.2.1, fun j hj => by rw [u.1 38 (by omega)]; exact h.2.2.1 j hj, h.2.2.2⟩
theorem SS_upd {K : Nat → Nat × Nat} {I J : Mem} {R : Nat → Nat → Option Nat} (h : SS K I R) (u : Upd I J) : SS K J R := SS_off h (fun a ha => u.1 a (by unfold lmB at ha; omega))

theorem c_bogAll {d : Nat} {K : Nat → Nat × Nat} {I : Nat → Nat → Int32} {L : Nat → Nat → Int64} {R : Nat → Nat → Option Nat} {n s : Nat} {Q : Lo → Lm → Prop} {T p : Nat} {tv : Nat → Nat} {H0 : Nat} (hT : TK K R n) (hR : RdI I T tv) (hS : SS K I R) (hp : p ≤ T) (hH : I 13 10 = nI H0) (hH6 : H0 ≤ 6) (kk : ∀ b J q, bogA tv T I p = (b, J, q) → Q (.inl (some (.int (if b = true then nI 1 else nI 0)))) (K, rdM J q, L, R, n, s)) : Ok (d + 8) 69 [.ref 40] (K, rdM (I) (p), L, R, n, s) Q := by
  obtain ⟨-, -, hn⟩ := id hT
  obtain ⟨hL, hT4, htv, htl⟩ := id hR
  refine Ok.enter (F := F_69) (ls := [.ref 40, lDead]) rfl rfl ?_
  refine wp_aload0 (pc' := 1) rfl rfl ?_
  refine wp_getRF (pc' := 4) rfl rfl (by first | exact TK.k1 hT rfl | exact TK.kk hT rfl | exact TK.r hT rfl | assumption) (by first | exact TK.k1 hT rfl | exact TK.kk hT rfl | exact TK.r hT rfl | assumption) rfl ?_
  refine wp_callV1 (pc' := 7) rfl rfl rfl rfl rfl (by first | exact TK.k1 hT rfl | exact TK.kk hT rfl | exact TK.r hT rfl | assumption) rfl rfl ?_
  refine c_isDone hT hR hp ?_
  refine Cont.v ?_
  first | refine wp_ifeqB (pc' := 10) rfl rfl ?_ ?_ | refine wp_ifeq (pc' := 10) rfl rfl ?_ ?_
  · intro h7
    refine wp_iconst (v := nI 0) (pc' := 13) rfl rfl rfl ?_
    refine wp_istore1 (pc' := 14) rfl (by first | rfl | assumption) rfl ?_
    have lp14 : ∀ r (i : Nat) (J : Mem) (q2 : Nat), i + r = 14 → RdI J T tv → SS K J R → q2 ≤ T → (∃ H, H ≤ 6 ∧ J 13 10 = nI H) → allL tv T (14 - i) J q2 = allL tv T 14 I p → WP (d + 7) F_69 14 [.ref 40, .int (nI i)] [] (K, rdM (J) (q2), L, R, n, s) Q := by
      intro r; induction r with
      | zero =>
        intro i J q2 hi hv0 hv1 hv2 hv3 hv4
        have hi2 : i = 14 := by omega
        skip
        refine wp_iload1 (pc' := 15) rfl rfl ?_
        refine wp_bipush (v := nI 14) (pc' := 17) rfl rfl rfl ?_
        refine wp_icmpgeT rfl (nI_nlt (by omega) (by omega)) ?_
        refine wp_iconst (v := nI 0) (pc' := 62) rfl rfl rfl ?_
        refine wp_iret rfl rfl (by first | rfl | exact nar_if) ?_
        exact kk false J q2 (by unfold bogA; rw [if_neg h7, ← hv4, show 14 - i = 0 by omega]; rfl)
      | succ r ih =>
        intro i J q2 hi hv0 hv1 hv2 hv3 hv4
        have hlt : i < 14 := by omega
        refine wp_iload1 (pc' := 15) rfl rfl ?_
        refine wp_bipush (v := nI 14) (pc' := 17) rfl rfl rfl ?_
        refine wp_icmpgeF (pc' := 20) rfl (nI_lt (by omega) (by omega)) rfl ?_
        obtain ⟨H, hv6, hvH⟩ := hv3
        have hvt : tn (J 13 10) = H := by rw [hvH]; exact tn_nI (by omega)
        refine wp_aload0 (pc' := 21) rfl rfl ?_
        refine wp_callV1 (pc' := 24) rfl rfl rfl rfl rfl (by first | exact TK.k1 hT rfl | exact TK.kk hT rfl | exact TK.r hT rfl | assumption) rfl rfl ?_
        refine c_line hT hv0 hv1 hv2 hvH hv6 (fun b M q e => ?_)
        have hl := linL_ok (tv := tv) (I := J) hv6 hv2 hvH
        rw [e] at hl
        obtain ⟨hu, hq, H2, hh6, hhH⟩ := hl
        dsimp only at hu hq hhH
        refine Cont.v ?_
        first | refine wp_ifneB (pc' := 27) rfl rfl ?_ ?_ | refine wp_ifne (pc' := 27) rfl rfl ?_ ?_
        · intro h24
          refine wp_aload0 (pc' := 30) rfl rfl ?_
          refine wp_getRF (pc' := 33) rfl rfl (by first | exact TK.k1 hT rfl | exact TK.kk hT rfl | exact TK.r hT rfl | assumption) (by first | exact TK.k1 hT rfl | exact TK.kk hT rfl | exact TK.r hT rfl | assumption) rfl ?_
          refine wp_callV1 (pc' := 36) rfl rfl rfl rfl rfl (by first | exact TK.k1 hT rfl | exact TK.kk hT rfl | exact TK.r hT rfl | assumption) rfl rfl ?_
          refine c_isDone hT (RdI_upd hv0 hu) hq ?_
          refine Cont.v ?_
          first | refine wp_ifeqB (pc' := 39) rfl rfl ?_ ?_ | refine wp_ifeq (pc' := 39) rfl rfl ?_ ?_
          · intro h36
            refine wp_aload0 (pc' := 42) rfl rfl ?_
            refine wp_getRF (pc' := 45) rfl rfl (by first | exact TK.k1 hT rfl | exact TK.kk hT rfl | exact TK.r hT rfl | assumption) (by first | exact TK.k1 hT rfl | exact TK.kk hT rfl | exact TK.r hT rfl | assumption) rfl ?_
            refine wp_bipush (v := nI 59) (pc' := 47) rfl rfl rfl ?_
            refine wp_callV2 (pc' := 50) rfl rfl rfl rfl rfl (by first | exact TK.k1 hT rfl | exact TK.kk hT rfl | exact TK.r hT rfl | assumption) rfl rfl ?_
            refine c_takeSign hT (RdI_upd hv0 hu) hq (by decide) (fun hsg => ?_) (fun hsg => ?_)
            · refine Cont.v ?_
              refine wp_ifneF (pc' := 53) rfl rfl rfl ?_
              refine wp_iconst (v := nI 0) (pc' := 54) rfl rfl rfl ?_
              refine wp_iret rfl rfl rfl ?_
              exact kk false M q (by unfold bogA; rw [if_neg h7]; rw [← hv4, show 14 - i = (14 - (i + 1)) + 1 by omega, allL, hvt, e, if_pos h24, if_neg h36, if_neg (fun z => hsg ⟨by omega, z⟩)])
            refine Cont.v ?_
            refine wp_ifneT rfl (by decide) ?_
            first | refine wp_iinc1 (w := nI 1) (pc' := 58) rfl rfl rfl (by with_reducible exact nI_add _ _) rfl ?_ | refine wp_iinc1 (w := nI 1) (pc' := 58) rfl rfl rfl rfl rfl ?_
            refine wp_goto rfl ?_
            exact WP.cg (ih (i + 1) M (skp tv T (q + 1)) (by omega) (RdI_upd hv0 hu) (SS_upd hv1 hu) (skp_ge (p := q + 1) (by omega)).2 ⟨H2, hh6, hhH⟩ (by rw [show 14 - i = (14 - (i + 1)) + 1 by omega, allL, hvt, e, if_pos h24, if_neg h36, if_pos hsg.2] at hv4; exact hv4)) (lC1 (lI1 (by rfl) rfl)) rfl (by rfl)
          · intro h36
            refine wp_iconst (v := nI 1) (pc' := 40) rfl rfl rfl ?_
            refine wp_iret rfl rfl (by first | rfl | exact nar_if) ?_
            obtain rfl : b = true := h24
            exact kk true M q (by unfold bogA; rw [if_neg h7, ← hv4, show 14 - i = (14 - (i + 1)) + 1 by omega, allL, hvt, e, if_pos rfl, if_pos h36])
        · intro h24
          refine wp_iconst (v := nI 0) (pc' := 28) rfl rfl rfl ?_
          refine wp_iret rfl rfl (by first | rfl | exact nar_if) ?_
          obtain rfl : b = false := Bool.eq_false_iff.mpr h24
          exact kk false M q (by unfold bogA; rw [if_neg h7, ← hv4, show 14 - i = (14 - (i + 1)) + 1 by omega, allL, hvt, e]; rfl)
    exact WP.cg (lp14 (14 - (0)) (0) I p (by omega) hR hS hp ⟨H0, hH6, hH⟩ rfl) (lC1 (lI1 (by rfl) rfl)) rfl (by rfl)
  · intro h7
    refine wp_iconst (v := nI 1) (pc' := 11) rfl rfl rfl ?_
    refine wp_iret rfl rfl (by first | rfl | exact nar_if) ?_
    exact kk true I p (by unfold bogA; rw [if_pos h7])
