/-! A DAY -/
def tn (x : Int32) : Nat := x.toNatClampNeg
theorem tn_nI {k : Nat} (h : k < 2 ^ 31) : tn (nI k) = k := nI_clamp h
def soakS (b : Nat) (dr le : Int32) (c : Nat) (J : Mem) : Mem := up2 J (b + 2) c (jmax (nI 0) (jmin (nI 9) (J (b + 2) c + (if J b 14 = nI 0 then nI 0 else nI 1) - (jshr le (nI c) &&& nI 1) - (jshr dr (nI c) &&& nI 1))))
def soakM (I : Mem) (b : Nat) (dr le : Int32) (i : Nat) : Mem := forN (fun c J => soakS b dr le c J) I i
def dryS (b : Nat) (dr : Int32) (o : LawT) (c : Nat) (J : Mem) : Mem := if nI 0 < J (b + 3) c then up2 (gainF J b c dr o).2 (b + 4) c (jmax (nI 0) (jmin (nI 99) (J (b + 4) c + (gainF J b c dr o).1))) else J
def dryM (I : Mem) (b : Nat) (dr : Int32) (o : LawT) (i : Nat) : Mem := forN (fun c J => dryS b dr o c J) I i
def dayCell (J : Mem) (b h : Nat) : Int32 := if J (b + 8) h < J (b + 7) h then fopS (vw b J) h else -1
def dcutS (b h : Nat) (p : Int32 × Mem) : Int32 × Mem := if dayCell p.2 b h = -1 then p else (p.1 + nI 1, cutM p.2 b h (tn (dayCell p.2 b h)) (nI 0) (tn (p.2 (b + 10) 1)))
def dcutF (I : Mem) (b : Nat) (i : Nat) : Int32 × Mem := forN (fun h p => dcutS b h p) (nI 0, I) i
def dayM1 (I : Mem) (b : Nat) (o : LawT) : Mem := dryM (soakM I b (drainC (I b 11)) (lettC (drainC (I b 11))) 25) b (drainC (I b 11)) o 25
def dayF (I : Mem) (b : Nat) (o : LawT) (H : Nat) : Int32 × Mem := ((dcutF (dayM1 I b o) b H).1, up2 (dcutF (dayM1 I b o) b H).2 b 15 (jmin ((dcutF (dayM1 I b o) b H).2 b 15 + nI 1) (nI 9999)))
theorem LO_eq {K : Nat → Nat × Nat} {R : Nat → Nat → Option Nat} {n : Nat} {I J : Mem} {b : Nat} {o : LawT} (h : LO K R n I b o) (e : ∀ a, (a + 6 ≤ b ∨ b + 12 ≤ a) → J a = I a) (e3 : ∀ a, (a + 6 ≤ b ∨ b + 12 ≤ a) → J (a + 3) = I (a + 3)) : LO K R n J b o := by
  match o, h with
  | none, h => exact h
  | some (la, m, z, bg), ⟨h1, h2, ⟨n1, n2, n3, n4⟩, h4⟩ =>
    refine ⟨h1, h2, ⟨?_, fun l hl => ?_, n3, n4⟩, h4⟩
    · rw [e la h4]; exact n1
    · rw [e3 la h4]; exact n2 l hl
theorem LO_up2 {K : Nat → Nat × Nat} {R : Nat → Nat → Option Nat} {n : Nat} {I : Mem} {b k j : Nat} {v : Int32} {o : LawT} (h : LO K R n I b o) (hk : k < 12) : LO K R n (up2 I (b + k) j v) b o :=
  LO_eq h (fun a ha => up2_row (by omega)) (fun a ha => up2_row (by omega))
theorem LO_tot {K : Nat → Nat × Nat} {R : Nat → Nat → Option Nat} {n : Nat} {I : Mem} {b c : Nat} {dr kd : Int32} {o : LawT} (h : LO K R n I b o) : LO K R n (totF I b c dr kd o).2 b o := by
  match o, h with
  | none, h => exact h
  | some (la, m, z, bg), ⟨h1, h2, h3, h4⟩ => exact ⟨h1, h2, LawN_upr h3, h4⟩
theorem LO_gain {K : Nat → Nat × Nat} {R : Nat → Nat → Option Nat} {n : Nat} {I : Mem} {b c : Nat} {dr : Int32} {o : LawT} (h : LO K R n I b o) : LO K R n (gainF I b c dr o).2 b o := by
  match o, h with
  | none, h => exact h
  | some q, h => exact LO_tot (LO_tot h)
theorem LO_soakS {K : Nat → Nat × Nat} {R : Nat → Nat → Option Nat} {n : Nat} {I : Mem} {b c : Nat} {dr le : Int32} {o : LawT} (h : LO K R n I b o) : LO K R n (soakS b dr le c I) b o := LO_up2 h (by decide)
theorem LO_dryS {K : Nat → Nat × Nat} {R : Nat → Nat → Option Nat} {n : Nat} {I : Mem} {b c : Nat} {dr : Int32} {o : LawT} (h : LO K R n I b o) : LO K R n (dryS b dr o c I) b o := by
  unfold dryS
  split
  · exact LO_up2 (LO_gain h) (by decide)
  · exact h
/-- an evaluation leaves all rows of a state as they are -/
theorem totF_row {K : Nat → Nat × Nat} {R : Nat → Nat → Option Nat} {n : Nat} {I : Mem} {b c k : Nat} {dr kd : Int32} {o : LawT} (h : LO K R n I b o) (hk : k < 12) : (totF I b c dr kd o).2 (b + k) = I (b + k) := by
  match o, h with
  | none, h => rfl
  | some (la, m, z, bg), ⟨h1, h2, h3, h4⟩ => exact upr_ne (by omega)
theorem gainF_row {K : Nat → Nat × Nat} {R : Nat → Nat → Option Nat} {n : Nat} {I : Mem} {b c k : Nat} {dr : Int32} {o : LawT} (h : LO K R n I b o) (hk : k < 12) : (gainF I b c dr o).2 (b + k) = I (b + k) := by
  match o, h with
  | none, h => rfl
  | some q, h =>
    show (totF (totF I b c dr (nI 0) (some q)).2 b c dr (nI 1) (some q)).2 (b + k) = _
    rw [totF_row (LO_tot h) hk, totF_row h hk]
theorem soakS_row {b c k : Nat} {dr le : Int32} {J : Mem} (hk : k ≠ 2) : soakS b dr le c J (b + k) = J (b + k) := up2_o hk
theorem dryS_row {K : Nat → Nat × Nat} {R : Nat → Nat → Option Nat} {n : Nat} {I : Mem} {b c k : Nat} {dr : Int32} {o : LawT} (h : LO K R n I b o) (hk : k < 12) (h4 : k ≠ 4) : dryS b dr o c I (b + k) = I (b + k) := by
  unfold dryS
  split
  · rw [up2_o h4, gainF_row h hk]
  · rfl
theorem soakM_row {I : Mem} {b k : Nat} {dr le : Int32} (hk : k ≠ 2) : ∀ i, soakM I b dr le i (b + k) = I (b + k)
  | 0 => rfl
  | i + 1 => (soakS_row hk).trans (soakM_row hk i)
theorem LO_soakM {K : Nat → Nat × Nat} {R : Nat → Nat → Option Nat} {n : Nat} {I : Mem} {b : Nat} {dr le : Int32} {o : LawT} (h : LO K R n I b o) : ∀ i, LO K R n (soakM I b dr le i) b o
  | 0 => h
  | i + 1 => LO_soakS (LO_soakM h i)
theorem LO_dryM {K : Nat → Nat × Nat} {R : Nat → Nat → Option Nat} {n : Nat} {I : Mem} {b : Nat} {dr : Int32} {o : LawT} (h : LO K R n I b o) : ∀ i, LO K R n (dryM I b dr o i) b o
  | 0 => h
  | i + 1 => LO_dryS (LO_dryM h i)
theorem dryM_row {K : Nat → Nat × Nat} {R : Nat → Nat → Option Nat} {n : Nat} {I : Mem} {b k : Nat} {dr : Int32} {o : LawT} (h : LO K R n I b o) (hk : k < 12) (h4 : k ≠ 4) : ∀ i, dryM I b dr o i (b + k) = I (b + k)
  | 0 => rfl
  | i + 1 => (dryS_row (LO_dryM h i) hk h4).trans (dryM_row h hk h4 i)
theorem ffrom_cases (p : Nat → Prop) [∀ c, Decidable (p c)] : ∀ r i, ffrom p r i = -1 ∨ ∃ c, i ≤ c ∧ c < i + r ∧ p c ∧ ffrom p r i = nI c
  | 0, i => Or.inl rfl
  | r + 1, i => by
    unfold ffrom
    by_cases h : p i
    · rw [if_pos h]; exact Or.inr ⟨i, by omega, by omega, h, rfl⟩
    · rw [if_neg h]
      rcases ffrom_cases p r (i + 1) with e | ⟨c, h1, h2, h3, h4⟩
      · exact Or.inl e
      · exact Or.inr ⟨c, by omega, by omega, h3, h4⟩
theorem fopS_cases {S : Nat → Nat → Int32} {h : Nat} (e : ¬ fopS S h = -1) : ∃ c, c < 25 ∧ fopP S h c ∧ fopS S h = nI c := by
  rcases ffrom_cases (fopP S h) 25 0 with q | ⟨c, _, h2, h3, h4⟩
  · exact absurd q e
  · exact ⟨c, by omega, h3, h4⟩
def LogOk (I : Mem) (b : Nat) : Prop := ∃ q, q < 60 ∧ I (b + 10) 1 = nI q
theorem cutM_row {I : Mem} {b h c q k : Nat} {kd : Int32} (h1 : k ≠ 1) (h3 : k ≠ 3) (h4 : k ≠ 4) (h5 : k ≠ 5) (h10 : k ≠ 10) (h11 : k ≠ 11) : cutM I b h c kd q (b + k) = I (b + k) := by
  unfold cutM
  rw [wrM_o h10 h11, up2_o h1, up2_o h3, up2_o h5, up2_o h4]
theorem LogOk_wr {I : Mem} {b q : Nat} {dy h c kd t : Int32} (hq : q < 60) : LogOk (wrM I b q dy h c kd t) b := ⟨(q + 1) % 60, by omega, by unfold wrM; simp +decide only [up2_same, ↓reduceIte]⟩
theorem LogOk_dcut {I : Mem} {b : Nat} (h0 : LogOk I b) : ∀ i, LogOk (dcutF I b i).2 b
  | 0 => h0
  | i + 1 => by
    obtain ⟨q, hq, e⟩ := LogOk_dcut h0 i
    show LogOk (dcutS b i (dcutF I b i)).2 b
    unfold dcutS
    split
    · exact ⟨q, hq, e⟩
    · refine LogOk_wr ?_
      rw [e, tn_nI (by omega)]; exact hq
theorem dcut_row {I : Mem} {b k : Nat} (h1 : k ≠ 1) (h3 : k ≠ 3) (h4 : k ≠ 4) (h5 : k ≠ 5) (h10 : k ≠ 10) (h11 : k ≠ 11) : ∀ i, (dcutF I b i).2 (b + k) = I (b + k)
  | 0 => rfl
  | i + 1 => by
    have ih := dcut_row (I := I) (b := b) h1 h3 h4 h5 h10 h11 i
    show (dcutS b i (dcutF I b i)).2 (b + k) = _
    unfold dcutS
    split
    · exact ih
    · exact (cutM_row h1 h3 h4 h5 h10 h11).trans ih
theorem dcutF_0 {I : Mem} {b : Nat} : dcutF I b 0 = (nI 0, I) := rfl
theorem day_m0 (I : Mem) (b : Nat) (o : LawT) : (dcutF (dayM1 I b o) b 0).2 = dayM1 I b o := by rw [dcutF_0]
theorem dayM1_def (I : Mem) (b : Nat) (o : LawT) : dayM1 I b o = dryM (soakM I b (drainC (I b 11)) (lettC (drainC (I b 11))) 25) b (drainC (I b 11)) o 25 := rfl
theorem tn_q {q : Nat} (h : q < 60) : tn (nI q) = q := tn_nI (by omega)

theorem c_passDay {d : Nat} {K : Nat → Nat × Nat} {I : Nat → Nat → Int32} {L : Nat → Nat → Int64} {R : Nat → Nat → Option Nat} {n s : Nat} {Q : Lo → Lm → Prop} {b : Nat} {o : LawT} {H : Nat} (hb : StK K R n b) (hlo : LO K R n I b o) (hH : I b 10 = nI H) (hH6 : H ≤ 6) (hlg : LogOk I b) (kk : Q (.inl (some (.int ((dayF I b o H).1)))) (K, (dayF I b o H).2, L, R, n, s)) : Ok (d + 5) 28 [.ref b] (K, I, L, R, n, s) Q := by
  obtain ⟨k0, k1, k2, k3, k4, k5, k6, k7, k8, k9, k10, k11, r0, r1, r2, r3, r4, r5, r6, r7, r8, r9, r10, hbn⟩ := id hb
  have hb10 : ∀ i, (dcutF (dayM1 I b o) b i).2 b = I b := fun i => (dcut_row (k := 0) (by decide) (by decide) (by decide) (by decide) (by decide) (by decide) i).trans ((dryM_row (k := 0) (LO_soakM hlo 25) (by decide) (by decide) 25).trans (soakM_row (k := 0) (by decide) 25))
  have hlog : ∀ i, LogOk (dcutF (dayM1 I b o) b i).2 b := fun i => LogOk_dcut (by
    obtain ⟨q, h1, h2⟩ := hlg
    exact ⟨q, h1, by rw [show dayM1 I b o (b + 10) = I (b + 10) from (dryM_row (LO_soakM hlo 25) (by decide) (by decide) 25).trans (soakM_row (by decide) 25)]; exact h2⟩) i
  refine Ok.enter (F := F_28) (ls := [.ref b, lDead, lDead, lDead, lDead, lDead]) rfl rfl ?_
  refine wp_aload0 (pc' := 1) rfl rfl ?_
  refine wp_callV1 (pc' := 4) rfl rfl rfl rfl rfl (by assumption) rfl rfl ?_
  refine c_drained hb ?_
  refine Cont.v ?_
  refine wp_istore1 (pc' := 5) rfl (by first | rfl | assumption) rfl ?_
  refine wp_iload1 (pc' := 6) rfl rfl ?_
  refine wp_callS1 (pc' := 9) rfl rfl rfl rfl rfl rfl ?_
  refine c_letting ?_
  refine Cont.v ?_
  refine wp_istore2 (pc' := 10) rfl (by first | rfl | assumption) rfl ?_
  refine wp_iconst (v := nI 0) (pc' := 11) rfl rfl rfl ?_
  refine wp_istore3 (pc' := 12) rfl (by first | rfl | assumption) rfl ?_
  have lp12 : ∀ r (i : Nat) (v4 : Value) (v5 : Value), i + r = 25 → isL v4 = false → isL v5 = false → WP (d + 4) F_28 12 [.ref b, .int (drainC (I b 11)), .int (lettC (drainC (I b 11))), .int (nI i), v4, v5] [] (K, soakM I b (drainC (I b 11)) (lettC (drainC (I b 11))) i, L, R, n, s) Q := by
    intro r; induction r with
    | zero =>
      intro i v4 v5 hi hv0 hv1
      have hi2 : i = 25 := by omega
      subst hi2
      refine wp_iload3 (pc' := 13) rfl rfl ?_
      refine wp_bipush (v := nI 25) (pc' := 15) rfl rfl rfl ?_
      refine wp_icmpgeT rfl (nI_nlt (by omega) (by omega)) ?_
      refine wp_iconst (v := nI 0) (pc' := 75) rfl rfl rfl ?_
      refine wp_istore3 (pc' := 76) rfl (by first | rfl | assumption) rfl ?_
      have lp76 : ∀ r (i : Nat) (v4 : Value) (v5 : Value), i + r = 25 → isL v4 = false → isL v5 = false → WP (d + 4) F_28 76 [.ref b, .int (drainC (I b 11)), .int (lettC (drainC (I b 11))), .int (nI i), v4, v5] [] (K, dryM (soakM I b (drainC (I b 11)) (lettC (drainC (I b 11))) 25) b (drainC (I b 11)) o i, L, R, n, s) Q := by
        intro r; induction r with
        | zero =>
          intro i v4 v5 hi hv0 hv1
          have hi2 : i = 25 := by omega
          subst hi2
          refine wp_iload3 (pc' := 77) rfl rfl ?_
          refine wp_bipush (v := nI 25) (pc' := 79) rfl rfl rfl ?_
          refine wp_icmpgeT rfl (nI_nlt (by omega) (by omega)) ?_
          refine wp_iconst (v := nI 0) (pc' := 126) rfl rfl rfl ?_
          refine wp_istore3 (pc' := 127) rfl (by first | rfl | assumption) rfl ?_
          refine wp_iconst (v := nI 0) (pc' := 128) rfl rfl rfl ?_
          refine wp_istore4 (pc' := 130) rfl (by first | rfl | assumption) rfl ?_
          have lp130 : ∀ r (i : Nat) (v5 : Value), i + r = H → isL v5 = false → WP (d + 4) F_28 130 [.ref b, .int (drainC (I b 11)), .int (lettC (drainC (I b 11))), .int (dcutF (dayM1 I b o) b i).1, .int (nI i), v5] [] (K, (dcutF (dayM1 I b o) b i).2, L, R, n, s) Q := by
            intro r; induction r with
            | zero =>
              intro i v5 hi hv0
              have hi2 : i = H := by omega
              subst hi2
              refine wp_iload4 (pc' := 132) rfl rfl ?_
              refine wp_aload0 (pc' := 133) rfl rfl ?_
              refine wp_getI (pc' := 136) rfl rfl (by assumption) rfl ?_
              first | rw [hb10i, hH] | rw [hb10, hH]
              refine wp_icmpgeT rfl (nI_nlt (by omega) (by omega)) ?_
              refine wp_aload0 (pc' := 193) rfl rfl ?_
              refine wp_aload0 (pc' := 194) rfl rfl ?_
              refine wp_getI (pc' := 197) rfl rfl (by assumption) rfl ?_
              refine wp_iconst (v := nI 1) (pc' := 198) rfl rfl rfl ?_
              first | refine wp_iaddN (pc' := 199) rfl (by with_reducible rfl) (by with_reducible rfl) rfl ?_ | refine wp_iadd (pc' := 199) rfl rfl ?_
              refine wp_sipush (v := nI 9999) (pc' := 202) rfl rfl rfl ?_
              refine wp_min (pc' := 205) rfl rfl rfl rfl ?_
              refine wp_putI (pc' := 208) rfl rfl (by assumption) (by omega) rfl ?_
              refine wp_iload3 (pc' := 209) rfl rfl ?_
              refine wp_iret rfl rfl rfl ?_
              exact kk
            | succ r ih =>
              intro i v5 hi hv0
              have hlt : i < H := by omega
              obtain ⟨q, hq60, hq⟩ := hlog i
              have hs : dcutF (dayM1 I b o) b (i + 1) = dcutS b i (dcutF (dayM1 I b o) b i) := rfl
              have hb10i := hb10 i
              obtain ⟨x, J, hp⟩ : ∃ x J, dcutF (dayM1 I b o) b i = (x, J) := ⟨_, _, rfl⟩
              rw [hp] at hs hq hb10i
              rw [hp]
              dsimp only at hq hb10i ⊢
              refine wp_iload4 (pc' := 132) rfl rfl ?_
              refine wp_aload0 (pc' := 133) rfl rfl ?_
              refine wp_getI (pc' := 136) rfl rfl (by assumption) rfl ?_
              first | rw [hb10i, hH] | rw [hb10, hH]
              refine wp_icmpgeF (pc' := 139) rfl (nI_lt (by omega) (by omega)) rfl ?_
              refine wp_aload0 (pc' := 140) rfl rfl ?_
              refine wp_getRF (pc' := 143) rfl rfl (by assumption) (by assumption) rfl ?_
              refine wp_iload4 (pc' := 145) rfl rfl ?_
              refine wp_iald _ (pc' := 146) rfl (by assumption) (by with_reducible rfl) (by omega) (by first | decide | assumption | omega) rfl ?_
              refine wp_aload0 (pc' := 147) rfl rfl ?_
              refine wp_getRF (pc' := 150) rfl rfl (by assumption) (by assumption) rfl ?_
              refine wp_iload4 (pc' := 152) rfl rfl ?_
              refine wp_iald _ (pc' := 153) rfl (by assumption) (by with_reducible rfl) (by omega) (by first | decide | assumption | omega) rfl ?_
              refine wp_icmpge (pc' := 156) rfl rfl ?_ ?_
              · intro h153
                refine wp_iconst (v := (-1)) (pc' := 166) rfl rfl rfl ?_
                refine wp_istore5 (pc' := 168) rfl (by first | rfl | assumption) rfl ?_
                refine wp_iload5 (pc' := 170) rfl rfl ?_
                refine wp_iconst (v := (-1)) (pc' := 171) rfl rfl rfl ?_
                refine wp_icmpeqT rfl rfl ?_
                first | refine wp_iinc4 (w := nI 1) (pc' := 189) rfl rfl rfl (by with_reducible exact nI_add _ _) rfl ?_ | refine wp_iinc4 (w := nI 1) (pc' := 189) rfl rfl rfl rfl rfl ?_
                refine wp_goto rfl ?_
                exact WP.cg (ih (i + 1) _ (by omega) (by first | rfl | assumption)) (lC1 (lI1 (by first | rfl | (rw [hs]; simp +decide only [dcutS, dayCell, *, ↓reduceIte]; done)) (lI1 (by first | rfl | (rw [hs]; simp +decide only [dcutS, dayCell, *, ↓reduceIte]; done)) (lI1 (by first | rfl | (rw [hs]; simp +decide only [dcutS, dayCell, *, ↓reduceIte]; done)) (lI1 (by first | rfl | (rw [hs]; simp +decide only [dcutS, dayCell, *, ↓reduceIte]; done)) (lC1 rfl)))))) rfl (by rw [hs]; simp +decide only [dcutS, dayCell, *, ↓reduceIte, tn_q hq60]; first | done | rw [tn_nI (by omega)])
              · intro h153
                refine wp_aload0 (pc' := 157) rfl rfl ?_
                refine wp_iload4 (pc' := 159) rfl rfl ?_
                refine wp_callV2 (pc' := 162) rfl rfl rfl rfl rfl (by assumption) rfl rfl ?_
                refine c_firstOpen hb (by omega) ?_
                refine Cont.v ?_
                refine wp_goto rfl ?_
                refine wp_istore5 (pc' := 168) rfl (by first | rfl | assumption) rfl ?_
                refine wp_iload5 (pc' := 170) rfl rfl ?_
                refine wp_iconst (v := (-1)) (pc' := 171) rfl rfl rfl ?_
                refine wp_icmpeq (pc' := 174) rfl rfl ?_ ?_
                · intro h171
                  first | refine wp_iinc4 (w := nI 1) (pc' := 189) rfl rfl rfl (by with_reducible exact nI_add _ _) rfl ?_ | refine wp_iinc4 (w := nI 1) (pc' := 189) rfl rfl rfl rfl rfl ?_
                  refine wp_goto rfl ?_
                  exact WP.cg (ih (i + 1) _ (by omega) (by first | rfl | assumption)) (lC1 (lI1 (by first | rfl | (rw [hs]; simp +decide only [dcutS, dayCell, *, ↓reduceIte]; done)) (lI1 (by first | rfl | (rw [hs]; simp +decide only [dcutS, dayCell, *, ↓reduceIte]; done)) (lI1 (by first | rfl | (rw [hs]; simp +decide only [dcutS, dayCell, *, ↓reduceIte]; done)) (lI1 (by first | rfl | (rw [hs]; simp +decide only [dcutS, dayCell, *, ↓reduceIte]; done)) (lC1 rfl)))))) rfl (by rw [hs]; simp +decide only [dcutS, dayCell, *, ↓reduceIte, tn_q hq60]; first | done | rw [tn_nI (by omega)])
                · intro h171
                  obtain ⟨c, hc25, -, hcx⟩ := fopS_cases h171
                  have hcne : ¬ nI c = -1 := hcx ▸ h171
                  rw [hcx]
                  refine wp_aload0 (pc' := 175) rfl rfl ?_
                  refine wp_iload4 (pc' := 177) rfl rfl ?_
                  refine wp_iload5 (pc' := 179) rfl rfl ?_
                  refine wp_iconst (v := nI 0) (pc' := 180) rfl rfl rfl ?_
                  refine wp_callV4 (pc' := 183) rfl rfl rfl rfl rfl (by assumption) rfl rfl ?_
                  refine c_cutAt hb (by omega) (by omega) hq hq60 ?_
                  refine Cont.u ?_
                  first | refine wp_iinc3 (w := nI 1) (pc' := 186) rfl rfl rfl (by with_reducible exact nI_add _ _) rfl ?_ | refine wp_iinc3 (w := nI 1) (pc' := 186) rfl rfl rfl rfl rfl ?_
                  first | refine wp_iinc4 (w := nI 1) (pc' := 189) rfl rfl rfl (by with_reducible exact nI_add _ _) rfl ?_ | refine wp_iinc4 (w := nI 1) (pc' := 189) rfl rfl rfl rfl rfl ?_
                  refine wp_goto rfl ?_
                  exact WP.cg (ih (i + 1) _ (by omega) (by first | rfl | assumption)) (lC1 (lI1 (by first | rfl | (rw [hs]; simp +decide only [dcutS, dayCell, *, ↓reduceIte]; done)) (lI1 (by first | rfl | (rw [hs]; simp +decide only [dcutS, dayCell, *, ↓reduceIte]; done)) (lI1 (by first | rfl | (rw [hs]; simp +decide only [dcutS, dayCell, *, ↓reduceIte]; done)) (lI1 (by first | rfl | (rw [hs]; simp +decide only [dcutS, dayCell, *, ↓reduceIte]; done)) (lC1 rfl)))))) rfl (by rw [hs]; simp +decide only [dcutS, dayCell, *, ↓reduceIte, tn_q hq60]; first | done | rw [tn_nI (by omega)])
          exact WP.cg (lp130 (H - 0) (0) _ (by omega) (by first | rfl | assumption)) (lC1 (lI1 (by first | (rw [dcutF_0]; done) | rfl) (lI1 (by first | (rw [dcutF_0]; done) | rfl) (lI1 (by first | (rw [dcutF_0]; done) | rfl) (lI1 (by first | (rw [dcutF_0]; done) | rfl) (lC1 rfl)))))) rfl (by rw [day_m0, dayM1_def])
        | succ r ih =>
          intro i v4 v5 hi hv0 hv1
          have hlt : i < 25 := by omega
          have hs : dryM (soakM I b (drainC (I b 11)) (lettC (drainC (I b 11))) 25) b (drainC (I b 11)) o (i + 1) = dryS b (drainC (I b 11)) o i (dryM (soakM I b (drainC (I b 11)) (lettC (drainC (I b 11))) 25) b (drainC (I b 11)) o i) := rfl
          have hLJ : LO K R n (dryM (soakM I b (drainC (I b 11)) (lettC (drainC (I b 11))) 25) b (drainC (I b 11)) o i) b o := LO_dryM (LO_soakM hlo 25) i
          generalize hJ : dryM (soakM I b (drainC (I b 11)) (lettC (drainC (I b 11))) 25) b (drainC (I b 11)) o i = J at hs hLJ ⊢
          refine wp_iload3 (pc' := 77) rfl rfl ?_
          refine wp_bipush (v := nI 25) (pc' := 79) rfl rfl rfl ?_
          refine wp_icmpgeF (pc' := 82) rfl (nI_lt (by omega) (by omega)) rfl ?_
          refine wp_aload0 (pc' := 83) rfl rfl ?_
          refine wp_getRF (pc' := 86) rfl rfl (by assumption) (by assumption) rfl ?_
          refine wp_iload3 (pc' := 87) rfl rfl ?_
          refine wp_iald _ (pc' := 88) rfl (by assumption) (by with_reducible rfl) (by omega) (by first | decide | assumption | omega) rfl ?_
          refine wp_ifle (pc' := 91) rfl rfl ?_ ?_
          · intro h88
            first | refine wp_iinc3 (w := nI 1) (pc' := 122) rfl rfl rfl (by with_reducible exact nI_add _ _) rfl ?_ | refine wp_iinc3 (w := nI 1) (pc' := 122) rfl rfl rfl rfl rfl ?_
            refine wp_goto rfl ?_
            exact WP.cg (ih (i + 1) _ _ (by omega) (by first | rfl | assumption) (by first | rfl | assumption)) (lC1 (lI1 (by rfl) (lI1 (by rfl) (lI1 (by rfl) (lC1 (lC1 rfl)))))) rfl (by rw [hs]; simp only [dryS, *, ↓reduceIte])
          · intro h88
            refine wp_aload0 (pc' := 92) rfl rfl ?_
            refine wp_getRF (pc' := 95) rfl rfl (by assumption) (by assumption) rfl ?_
            refine wp_iload3 (pc' := 96) rfl rfl ?_
            refine wp_iconst (v := nI 0) (pc' := 97) rfl rfl rfl ?_
            refine wp_bipush (v := nI 99) (pc' := 99) rfl rfl rfl ?_
            refine wp_aload0 (pc' := 100) rfl rfl ?_
            refine wp_getRF (pc' := 103) rfl rfl (by assumption) (by assumption) rfl ?_
            refine wp_iload3 (pc' := 104) rfl rfl ?_
            refine wp_iald _ (pc' := 105) rfl (by assumption) (by with_reducible rfl) (by omega) (by first | decide | assumption | omega) rfl ?_
            refine wp_aload0 (pc' := 106) rfl rfl ?_
            refine wp_iload3 (pc' := 107) rfl rfl ?_
            refine wp_iload1 (pc' := 108) rfl rfl ?_
            refine wp_callV3 (pc' := 111) rfl rfl rfl rfl rfl (by assumption) rfl rfl ?_
            refine c_gain hb (by omega) (by assumption) ?_
            refine Cont.v ?_
            first | refine wp_iaddN (pc' := 112) rfl (by with_reducible rfl) (by with_reducible rfl) rfl ?_ | refine wp_iadd (pc' := 112) rfl rfl ?_
            refine wp_min (pc' := 115) rfl rfl rfl rfl ?_
            refine wp_max (pc' := 118) rfl rfl rfl rfl ?_
            refine wp_iast _ (pc' := 119) rfl (by assumption) (by omega) (by with_reducible rfl) (by omega) (by first | decide | assumption | omega) rfl ?_
            first | refine wp_iinc3 (w := nI 1) (pc' := 122) rfl rfl rfl (by with_reducible exact nI_add _ _) rfl ?_ | refine wp_iinc3 (w := nI 1) (pc' := 122) rfl rfl rfl rfl rfl ?_
            refine wp_goto rfl ?_
            exact WP.cg (ih (i + 1) _ _ (by omega) (by first | rfl | assumption) (by first | rfl | assumption)) (lC1 (lI1 (by rfl) (lI1 (by rfl) (lI1 (by rfl) (lC1 (lC1 rfl)))))) rfl (by rw [hs]; simp only [dryS, *, ↓reduceIte])
      exact WP.cg (lp76 (25 - 0) (0) _ _ (by omega) (by first | rfl | assumption) (by first | rfl | assumption)) (lC1 (lI1 (by first | rfl | (simp only [forN, *, ↓reduceIte]; done) | (simp_all [forN]; done)) (lI1 (by first | rfl | (simp only [forN, *, ↓reduceIte]; done) | (simp_all [forN]; done)) (lI1 (by first | rfl | (simp only [forN, *, ↓reduceIte]; done) | (simp_all [forN]; done)) (lC1 (lC1 rfl)))))) rfl (by rfl)
    | succ r ih =>
      intro i v4 v5 hi hv0 hv1
      have hlt : i < 25 := by omega
      have hs : soakM I b (drainC (I b 11)) (lettC (drainC (I b 11))) (i + 1) = soakS b (drainC (I b 11)) (lettC (drainC (I b 11))) i (soakM I b (drainC (I b 11)) (lettC (drainC (I b 11))) i) := rfl
      generalize hJ : soakM I b (drainC (I b 11)) (lettC (drainC (I b 11))) i = J at hs ⊢
      refine wp_iload3 (pc' := 13) rfl rfl ?_
      refine wp_bipush (v := nI 25) (pc' := 15) rfl rfl rfl ?_
      refine wp_icmpgeF (pc' := 18) rfl (nI_lt (by omega) (by omega)) rfl ?_
      refine wp_aload0 (pc' := 19) rfl rfl ?_
      refine wp_getRF (pc' := 22) rfl rfl (by assumption) (by assumption) rfl ?_
      refine wp_iload3 (pc' := 23) rfl rfl ?_
      refine wp_iald _ (pc' := 24) rfl (by assumption) (by with_reducible rfl) (by omega) (by first | decide | assumption | omega) rfl ?_
      refine wp_aload0 (pc' := 25) rfl rfl ?_
      refine wp_getZ (pc' := 28) rfl rfl (by assumption) rfl ?_
      first | refine wp_ifeqB (pc' := 31) rfl rfl ?_ ?_ | refine wp_ifeq (pc' := 31) rfl rfl ?_ ?_
      · intro h28
        refine wp_iconst (v := nI 0) (pc' := 36) rfl rfl rfl ?_
        first | refine wp_iaddN (pc' := 37) rfl (by with_reducible rfl) (by with_reducible rfl) rfl ?_ | refine wp_iadd (pc' := 37) rfl rfl ?_
        refine wp_iload2 (pc' := 38) rfl rfl ?_
        refine wp_iload3 (pc' := 39) rfl rfl ?_
        refine wp_ishr (pc' := 40) rfl rfl ?_
        refine wp_iconst (v := nI 1) (pc' := 41) rfl rfl rfl ?_
        refine wp_iand (pc' := 42) rfl rfl ?_
        first | refine wp_isubN (pc' := 43) rfl (by with_reducible rfl) (by with_reducible rfl) (by omega) rfl ?_ | refine wp_isub (pc' := 43) rfl rfl ?_
        refine wp_iload1 (pc' := 44) rfl rfl ?_
        refine wp_iload3 (pc' := 45) rfl rfl ?_
        refine wp_ishr (pc' := 46) rfl rfl ?_
        refine wp_iconst (v := nI 1) (pc' := 47) rfl rfl rfl ?_
        refine wp_iand (pc' := 48) rfl rfl ?_
        first | refine wp_isubN (pc' := 49) rfl (by with_reducible rfl) (by with_reducible rfl) (by omega) rfl ?_ | refine wp_isub (pc' := 49) rfl rfl ?_
        refine wp_istore4 (pc' := 51) rfl (by first | rfl | assumption) rfl ?_
        refine wp_aload0 (pc' := 52) rfl rfl ?_
        refine wp_getRF (pc' := 55) rfl rfl (by assumption) (by assumption) rfl ?_
        refine wp_iload3 (pc' := 56) rfl rfl ?_
        refine wp_iconst (v := nI 0) (pc' := 57) rfl rfl rfl ?_
        refine wp_bipush (v := nI 9) (pc' := 59) rfl rfl rfl ?_
        refine wp_iload4 (pc' := 61) rfl rfl ?_
        refine wp_min (pc' := 64) rfl rfl rfl rfl ?_
        refine wp_max (pc' := 67) rfl rfl rfl rfl ?_
        refine wp_iast _ (pc' := 68) rfl (by assumption) (by omega) (by with_reducible rfl) (by omega) (by first | decide | assumption | omega) rfl ?_
        first | refine wp_iinc3 (w := nI 1) (pc' := 71) rfl rfl rfl (by with_reducible exact nI_add _ _) rfl ?_ | refine wp_iinc3 (w := nI 1) (pc' := 71) rfl rfl rfl rfl rfl ?_
        refine wp_goto rfl ?_
        exact WP.cg (ih (i + 1) _ _ (by omega) (by first | rfl | assumption) (by first | rfl | assumption)) (lC1 (lI1 (by rfl) (lI1 (by rfl) (lI1 (by rfl) (lC1 (lC1 rfl)))))) rfl (by rw [hs]; simp only [soakS, *, ↓reduceIte])
      · intro h28
        refine wp_iconst (v := nI 1) (pc' := 32) rfl rfl rfl ?_
        refine wp_goto rfl ?_
        first | refine wp_iaddN (pc' := 37) rfl (by with_reducible rfl) (by with_reducible rfl) rfl ?_ | refine wp_iadd (pc' := 37) rfl rfl ?_
        refine wp_iload2 (pc' := 38) rfl rfl ?_
        refine wp_iload3 (pc' := 39) rfl rfl ?_
        refine wp_ishr (pc' := 40) rfl rfl ?_
        refine wp_iconst (v := nI 1) (pc' := 41) rfl rfl rfl ?_
        refine wp_iand (pc' := 42) rfl rfl ?_
        first | refine wp_isubN (pc' := 43) rfl (by with_reducible rfl) (by with_reducible rfl) (by omega) rfl ?_ | refine wp_isub (pc' := 43) rfl rfl ?_
        refine wp_iload1 (pc' := 44) rfl rfl ?_
        refine wp_iload3 (pc' := 45) rfl rfl ?_
        refine wp_ishr (pc' := 46) rfl rfl ?_
        refine wp_iconst (v := nI 1) (pc' := 47) rfl rfl rfl ?_
        refine wp_iand (pc' := 48) rfl rfl ?_
        first | refine wp_isubN (pc' := 49) rfl (by with_reducible rfl) (by with_reducible rfl) (by omega) rfl ?_ | refine wp_isub (pc' := 49) rfl rfl ?_
        refine wp_istore4 (pc' := 51) rfl (by first | rfl | assumption) rfl ?_
        refine wp_aload0 (pc' := 52) rfl rfl ?_
        refine wp_getRF (pc' := 55) rfl rfl (by assumption) (by assumption) rfl ?_
        refine wp_iload3 (pc' := 56) rfl rfl ?_
        refine wp_iconst (v := nI 0) (pc' := 57) rfl rfl rfl ?_
        refine wp_bipush (v := nI 9) (pc' := 59) rfl rfl rfl ?_
        refine wp_iload4 (pc' := 61) rfl rfl ?_
        refine wp_min (pc' := 64) rfl rfl rfl rfl ?_
        refine wp_max (pc' := 67) rfl rfl rfl rfl ?_
        refine wp_iast _ (pc' := 68) rfl (by assumption) (by omega) (by with_reducible rfl) (by omega) (by first | decide | assumption | omega) rfl ?_
        first | refine wp_iinc3 (w := nI 1) (pc' := 71) rfl rfl rfl (by with_reducible exact nI_add _ _) rfl ?_ | refine wp_iinc3 (w := nI 1) (pc' := 71) rfl rfl rfl rfl rfl ?_
        refine wp_goto rfl ?_
        exact WP.cg (ih (i + 1) _ _ (by omega) (by first | rfl | assumption) (by first | rfl | assumption)) (lC1 (lI1 (by rfl) (lI1 (by rfl) (lI1 (by rfl) (lC1 (lC1 rfl)))))) rfl (by rw [hs]; simp only [soakS, *, ↓reduceIte])
  exact WP.cg (lp12 (25 - 0) (0) _ _ (by omega) (by first | rfl | assumption) (by first | rfl | assumption)) (lC1 (lI1 (by first | rfl | (simp only [forN, *, ↓reduceIte]; done) | (simp_all [forN]; done)) (lI1 (by first | rfl | (simp only [forN, *, ↓reduceIte]; done) | (simp_all [forN]; done)) (lI1 (by first | rfl | (simp only [forN, *, ↓reduceIte]; done) | (simp_all [forN]; done)) (lC1 (lC1 rfl)))))) rfl (by rfl)
