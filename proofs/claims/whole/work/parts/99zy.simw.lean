/-! PAIRS: nets -/
theorem fix_cap {st s6 us a : Nat → Nat} {B : Nat} (h : FixI st us a) (hb : ∀ c, c < 25 → a c ≤ B) (e : ∀ c, c < 25 → s6 c = min (st c) B) : FixI s6 us a := by
  refine ⟨⟨fun q hq => ?_, h.1.2⟩, fun g hg => h.2 g ⟨fun q hq => ?_, hg.2⟩⟩
  · rw [e q hq]; have := h.1.1 q hq; have := hb q hq; omega
  · have := hg.1 q hq; rw [e q hq] at this; omega
theorem xor_16 : ∀ m : Fin 16, ∀ p : Fin 16, 1 ≤ p.1 → p.1 < m.1 → (p.1 &&& m.1) = p.1 → 1 ≤ (m.1 ^^^ p.1) ∧ (m.1 ^^^ p.1) < m.1 ∧ p.1 + (m.1 ^^^ p.1) = m.1 := by decide +kernel
theorem pw_16 : ∀ m : Fin 16, 1 ≤ m.1 → ((m.1 &&& (m.1 - 1)) = 0 → m.1 = 2 ^ lw4 m.1 ∧ lw4 m.1 < 4) ∧ (¬ (m.1 &&& (m.1 - 1)) = 0 → ∃ p : Fin 16, 1 ≤ p.1 ∧ p.1 < m.1 ∧ (p.1 &&& m.1) = p.1) := by decide +kernel
theorem pw_j : ∀ j : Fin 4, ∀ m : Fin 16, m.1 = 2 ^ j.1 → (m.1 &&& (m.1 - 1)) = 0 ∧ lw4 m.1 = j.1 := by decide +kernel
theorem jpi_at {x : Int32} {m p : Nat} {N : Mem} (hp : p ≠ m) (hx : (m ^^^ p) ≠ m) : ∀ i, (∀ a, a ≠ m → jpI x m p N i a = N a) ∧ ∀ c, jpI x m p N i m c = if c < i then jpV N m x p c else N m c
  | 0 => ⟨fun _ _ => rfl, fun c => by rw [if_neg (by omega)]; rfl⟩
  | i + 1 => by
    obtain ⟨i1, i2⟩ := jpi_at (x := x) (N := N) hp hx i
    have hv : jpV (jpI x m p N i) m x p i = jpV N m x p i := by
      unfold jpV; rw [i1 p hp, i1 (m ^^^ p) hx, i2 i, if_neg (by omega)]
    show (∀ a, a ≠ m → up2 (jpI x m p N i) m i (jpV (jpI x m p N i) m x p i) a = N a) ∧ ∀ c, up2 (jpI x m p N i) m i (jpV (jpI x m p N i) m x p i) m c = _
    rw [hv]
    refine ⟨fun a ha => by rw [up2_row ha]; exact i1 a ha, fun c => ?_⟩
    rw [up2_same]
    by_cases e : c = i
    · rw [if_pos e, e, if_pos (by omega)]
    · rw [if_neg e, i2 c]
      by_cases z : c < i
      · rw [if_pos z, if_pos (by omega)]
      · rw [if_neg z, if_neg (by omega)]
/-- the least of a start and of what the parts give -/
theorem jpn_at {x : Int32} {dr : Nat → Nat} {a : Nat → Nat → Nat} {m : Nat} {N : Mem} {s0 : Nat → Nat} (hm : m < 16) (hb : ∀ c, c < 25 → jshr x (nI c) &&& nI 1 = nI (dr c) ∧ dr c ≤ 1) (ha : ∀ p c, 1 ≤ p → p < m → c < 25 → N p c = nI (a p c) ∧ ditU dr c ≤ a p c ∧ a p c ≤ 1000) (hs : ∀ c, c < 25 → N m c = nI (s0 c) ∧ s0 c ≤ 1000000) : ∀ i, i < m → ∃ s : Nat → Nat, (∀ q, q ≠ m → jpN N x m i q = N q) ∧ ∀ c, c < 25 → jpN N x m i m c = nI (s c) ∧ s c ≤ s0 c ∧ (∀ p, 1 ≤ p → p ≤ i → (p &&& m) = p → s c ≤ vlN dr a m c p) ∧ (s c = s0 c ∨ ∃ p, 1 ≤ p ∧ p ≤ i ∧ (p &&& m) = p ∧ s c = vlN dr a m c p)
  | 0 => fun _ => ⟨s0, fun _ _ => rfl, fun c hc => ⟨(hs c hc).1, Nat.le_refl _, fun p h1 h2 => absurd h1 (by omega), Or.inl rfl⟩⟩
  | i + 1 => fun hi => by
    obtain ⟨s, h1, h2⟩ := jpn_at hm hb ha hs i (by omega)
    have hst : jpN N x m (i + 1) = jpS x m (1 + i) (jpN N x m i) := rfl
    rw [hst]
    unfold jpS
    by_cases z : ((1 + i) &&& m) = 1 + i
    · rw [if_pos z]
      obtain ⟨x1, x2, x3⟩ := xor_16 ⟨m, hm⟩ ⟨1 + i, by omega⟩ (by show 1 ≤ 1 + i; omega) (by show 1 + i < m; omega) z
      dsimp only at x1 x2 x3
      obtain ⟨j1, j2⟩ := jpi_at (x := x) (m := m) (p := 1 + i) (N := jpN N x m i) (by omega) (by omega) 25
      refine ⟨fun c => min (s c) (vlN dr a m c (1 + i)), fun q hq => (j1 q hq).trans (h1 q hq), fun c hc => ?_⟩
      obtain ⟨g1, g2, g3, g4⟩ := h2 c hc
      obtain ⟨p1, p2, p3⟩ := ha (1 + i) c (by omega) (by omega) hc
      obtain ⟨q1, q2, q3⟩ := ha (m ^^^ (1 + i)) c x1 x2 hc
      have hs0 := (hs c hc).2
      have hd := (hb c hc).2
      refine ⟨?_, by dsimp only; omega, fun p r1 r2 r3 => ?_, ?_⟩
      · rw [j2 c, if_pos hc]
        unfold jpV
        rw [h1 (1 + i) (by omega), h1 (m ^^^ (1 + i)) (by omega), g1, p1, q1, (hb c hc).1, nI_sub hd, nI_add, nI_sub (by unfold ditU at p2; omega)]
        show jmin (nI (s c)) (nI (a (1 + i) c + a (m ^^^ (1 + i)) c - (1 - dr c))) = _
        show _ = nI (min (s c) (vlN dr a m c (1 + i)))
        unfold jmin vlN ditU
        by_cases y : nI (a (1 + i) c + a (m ^^^ (1 + i)) c - (1 - dr c)) < nI (s c)
        · rw [if_pos y]
          have := nI_lt_inv (by omega) (by omega) y
          rw [Nat.min_eq_right (by omega)]
        · rw [if_neg y]
          have := ge_nI y (by omega)
          rw [Nat.min_eq_left (by omega)]
      · dsimp only
        by_cases e : p = 1 + i
        · rw [e]; omega
        · have := g3 p r1 (by omega) r3; omega
      · dsimp only
        by_cases y : vlN dr a m c (1 + i) < s c
        · exact Or.inr ⟨1 + i, by omega, by omega, z, by omega⟩
        · rw [Nat.min_eq_left (by omega)]
          exact g4.imp id (fun ⟨p, r1, r2, r3, r4⟩ => ⟨p, r1, by omega, r3, r4⟩)
    · rw [if_neg z]
      refine ⟨s, h1, fun c hc => ?_⟩
      obtain ⟨g1, g2, g3, g4⟩ := h2 c hc
      refine ⟨g1, g2, fun p r1 r2 r3 => ?_, g4.imp id (fun ⟨p, r1, r2, r3, r4⟩ => ⟨p, r1, by omega, r3, r4⟩)⟩
      by_cases e : p = 1 + i
      · rw [e] at r3; exact absurd r3 z
      · exact g3 p r1 (by omega) r3
theorem fd1_at {x : Int32} {tv dr : Nat → Nat} {m : Nat} {N : Mem} (hm : m < 16) (hb : ∀ c, c < 25 → jshr x (nI c) &&& nI 1 = nI (dr c) ∧ dr c ≤ 1) (htv : ∀ j, j < 4 → m = 2 ^ j → tv j < 25) : ∀ k, k ≤ 4 → (∀ q, q ≠ m → fd1 x tv m N k q = N q) ∧ ∀ c, fd1 x tv m N k m c = if (m &&& (m - 1)) = 0 ∧ lw4 m < k ∧ 1 ≤ m ∧ tv (lw4 m) = c then nI (1 - dr c) else N m c
  | 0 => fun _ => ⟨fun _ _ => rfl, fun c => by rw [if_neg (fun z => by omega)]; rfl⟩
  | k + 1 => fun hk => by
    obtain ⟨i1, i2⟩ := fd1_at (tv := tv) (N := N) hm hb htv k (by omega)
    have hst : fd1 x tv m N (k + 1) = if m = 2 ^ k then up2 (fd1 x tv m N k) m (tv k) (nI 1 - (jshr x (nI (tv k)) &&& nI 1)) else fd1 x tv m N k := rfl
    rw [hst]
    by_cases z : m = 2 ^ k
    · rw [if_pos z]
      obtain ⟨p1, p2⟩ := pw_j ⟨k, by omega⟩ ⟨m, hm⟩ z
      dsimp only at p1 p2
      have h1 : 1 ≤ m := by rw [z]; exact Nat.one_le_two_pow
      have ht := htv k (by omega) z
      obtain ⟨b1, b2⟩ := hb (tv k) ht
      refine ⟨fun q hq => by rw [up2_row hq]; exact i1 q hq, fun c => ?_⟩
      rw [up2_same, b1, nI_sub b2]
      by_cases e : c = tv k
      · rw [if_pos e, if_pos ⟨p1, by omega, h1, by rw [p2, e]⟩, e]
      · rw [if_neg e, i2 c, if_neg (fun y => by omega), if_neg (fun y => e (by rw [p2] at y; exact y.2.2.2.symm))]
    · rw [if_neg z]
      refine ⟨i1, fun c => ?_⟩
      rw [i2 c]
      by_cases y : (m &&& (m - 1)) = 0 ∧ lw4 m < k ∧ 1 ≤ m ∧ tv (lw4 m) = c
      · rw [if_pos y, if_pos ⟨y.1, by omega, y.2.2⟩]
      · rw [if_neg y, if_neg (fun w => y ⟨w.1, by
          have := (pw_16 ⟨m, hm⟩ w.2.2.1).1 w.1
          dsimp only at this
          have hne : lw4 m ≠ k := fun e => z (by rw [← e]; exact this.1)
          omega, w.2.2⟩)]
/-- nets, mask by mask -/
theorem net_eq {x : Int32} {tv dr : Nat → Nat} {a : Nat → Nat → Nat} {T : Nat} {N : Mem} (hT : T ≤ 4) (htv : ∀ j, j < T → tv j < 25) (hb : ∀ c, c < 25 → jshr x (nI c) &&& nI 1 = nI (dr c) ∧ dr c ≤ 1) (hN : NetI dr tv a (2 ^ T)) : ∀ i, i < 2 ^ T → ∀ m c, 1 ≤ m → m ≤ i → c < 25 → fdN x tv T N i m c = nI (a m c) ∧ ditU dr c ≤ a m c ∧ a m c ≤ 10 * m
  | 0 => fun _ m c h1 h2 => absurd h1 (by omega)
  | i + 1 => fun hi => by
    have ih := net_eq (N := N) hT htv hb hN i (by omega)
    have h16 : 2 ^ T ≤ 16 := Nat.pow_le_pow_right (by decide) hT
    have hst : fdN x tv T N (i + 1) = fdS x tv T (1 + i) (fdN x tv T N i) := rfl
    rw [hst]
    generalize hM : fdN x tv T N i = M at *
    generalize hm : 1 + i = m
    have hm1 : 1 ≤ m := by omega
    have hm16 : m < 16 := by omega
    obtain ⟨st, n1, n2⟩ := hN m hm1 (by omega)
    have htv4 : ∀ j, j < 4 → m = 2 ^ j → tv j < 25 := fun j _ e => htv j (by
      apply Classical.byContradiction
      intro q
      have : 2 ^ T ≤ 2 ^ j := Nat.pow_le_pow_right (by decide) (by omega)
      omega)
    obtain ⟨f1, f2⟩ := fd1_at (x := x) (tv := tv) (N := upr M m (fillR 25 (nI 1000000) (M m))) hm16 hb htv4 T hT
    have ha1 : ∀ p c, 1 ≤ p → p < m → c < 25 → fd1 x tv m (upr M m (fillR 25 (nI 1000000) (M m))) T p c = nI (a p c) ∧ ditU dr c ≤ a p c ∧ a p c ≤ 1000 := fun p c q1 q2 q3 => by
      rw [f1 p (by omega), upr_ne (by omega)]
      obtain ⟨e1, e2, e3⟩ := ih p c q1 (by omega) q3
      exact ⟨e1, e2, by omega⟩
    have hnb : ∀ c, c < 25 → nbs dr tv m c = (if (m &&& (m - 1)) = 0 ∧ lw4 m < T ∧ 1 ≤ m ∧ tv (lw4 m) = c then 1 - dr c else 100000000) := fun c hc => by
      unfold nbs
      by_cases y : (m &&& (m - 1)) = 0 ∧ tv (lw4 m) = c
      · have hl : lw4 m < T := by
          have h3 := ((pw_16 ⟨m, hm16⟩ hm1).1 y.1).1
          dsimp only at h3
          apply Classical.byContradiction
          intro q
          have : 2 ^ T ≤ 2 ^ lw4 m := Nat.pow_le_pow_right (by decide) (by omega)
          omega
        rw [if_pos y, if_pos ⟨y.1, hl, hm1, y.2⟩]
      · rw [if_neg y, if_neg (fun w => y ⟨w.1, w.2.2.2⟩)]
    have hs1 : ∀ c, c < 25 → fd1 x tv m (upr M m (fillR 25 (nI 1000000) (M m))) T m c = nI (min (nbs dr tv m c) 1000000) ∧ min (nbs dr tv m c) 1000000 ≤ 1000000 := fun c hc => by
      refine ⟨?_, by omega⟩
      rw [f2 c, hnb c hc]
      by_cases y : (m &&& (m - 1)) = 0 ∧ lw4 m < T ∧ 1 ≤ m ∧ tv (lw4 m) = c
      · rw [if_pos y, if_pos y, Nat.min_eq_left (by omega)]
      · rw [if_neg y, if_neg y, upr_same, Nat.min_eq_right (by omega)]
        exact if_pos hc
    obtain ⟨s, j1, j2⟩ := jpn_at hm16 hb ha1 hs1 (m - 1) (by omega)
    have hv : ∀ p c, 1 ≤ p → p < m → (p &&& m) = p → c < 25 → vlN dr a m c p ≤ 10 * m ∧ ditU dr c ≤ vlN dr a m c p := fun p c q1 q2 q3 q4 => by
      obtain ⟨x1, x2, x3⟩ := xor_16 ⟨m, hm16⟩ ⟨p, by omega⟩ q1 q2 q3
      dsimp only at x1 x2 x3
      obtain ⟨-, e2, e3⟩ := ih p c q1 (by omega) q4
      obtain ⟨-, g2, g3⟩ := ih (m ^^^ p) c x1 (by omega) q4
      unfold vlN
      omega
    have hse : ∀ c, c < 25 → s c = min (st c) 1000000 := fun c hc => by
      obtain ⟨-, g2, g3, g4⟩ := j2 c hc
      obtain ⟨k1, k2, k3⟩ := n1 c hc
      have u1 : s c ≤ min (st c) 1000000 := by
        clear g4
        rcases k3 with e | ⟨q, q1, q2, q3, q4⟩
        · omega
        · have := g3 q (by omega) (by omega) q3
          have := (hv q c (by omega) q2 q3 hc).1
          omega
      have u2 : min (st c) 1000000 ≤ s c := by
        clear k3
        rcases g4 with e | ⟨q, q1, q2, q3, q4⟩
        · omega
        · have := k2 q (by omega) (by omega) q3
          omega
      exact Nat.le_antisymm u1 u2
    have hlow : ∀ c, c < 25 → a m c ≤ 10 * m := fun c hc => by
      by_cases y : (m &&& (m - 1)) = 0
      · have h3 := (pw_16 ⟨m, hm16⟩ hm1).1 y
        dsimp only at h3
        have ht := htv4 (lw4 m) h3.2 h3.1
        have k1 := (n1 (tv (lw4 m)) ht).1
        unfold nbs at k1
        rw [if_pos ⟨y, rfl⟩] at k1
        have k2 := n2.1.1 (tv (lw4 m)) ht
        have k3 := adm_8 (U := 1) n2.1 (fun c _ => by unfold ditU; omega) hc ht
        omega
      · obtain ⟨p, p1, p2, p3⟩ := (pw_16 ⟨m, hm16⟩ hm1).2 y
        dsimp only at p1 p2 p3
        have k1 := (n1 c hc).2.1 p.1 (by omega) p2 p3
        have k2 := n2.1.1 c hc
        have k3 := (hv p.1 c p1 p2 p3 hc).1
        omega
    have hup : ∀ c, c < 25 → ditU dr c ≤ a m c := fun c hc => by
      rcases fix_tight n2 hc with e | ⟨q, q1, q2, q3⟩
      · rw [e]
        rcases (n1 c hc).2.2 with k | ⟨p, p1, p2, p3, p4⟩
        · rw [k]
          unfold nbs ditU
          split <;> omega
        · rw [p4]; exact (hv p c (by omega) p2 p3 hc).2
      · omega
    have hfx := rlx_fix (f := gnF x) (st := s) (us := ditU dr) (a := a m) (lo := 0) (w := 25) (g := jpN (fd1 x tv m (upr M m (fillR 25 (nI 1000000) (M m))) T) x m (m - 1) m) (by decide) (fun c v hc hv => by
      obtain ⟨b1, b2⟩ := hb c hc
      unfold gnF ditU
      rw [b1, nI_add, nI_sub (by omega)]
      congr 1; omega) (fun c _ => by unfold ditU; omega) (fun j hj => ⟨(j2 j hj).1, by rw [hse j hj]; omega⟩) (fun c hc => absurd hc (by omega)) (fix_cap n2 (fun c hc => by have := hlow c hc; omega) hse)
    intro q c q1 q2 hc
    by_cases e : q = m
    · subst e
      refine ⟨?_, hup c hc, hlow c hc⟩
      show upr _ q _ q c = _
      rw [upr_same]; exact hfx c hc
    · obtain ⟨e1, e2, e3⟩ := ih q c q1 (by omega) hc
      refine ⟨?_, e2, e3⟩
      show upr _ m _ q c = _
      rw [upr_ne e]
      show jpN (fd1 x tv m (upr M m (fillR 25 (nI 1000000) (M m))) T) x m (m - 1) q c = _
      rw [j1 q e, f1 q e, upr_ne e]; exact e1
theorem o_net {N d : Nat} {xs : Nat → Int32} {K : Nat → Nat × Nat} {I : Mem} {L : Nat → Nat → Int64} {R : Nat → Nat → Option Nat} {n s : Nat} (h : Sim N xs K I L R n) (hn : n + 6 ≤ lmCells) (hs : s + 876 ≤ lmSlots) : Ok (d + 40) 145 [.ref 0, .ref 337] (K, I, L, R, n, s) (AftC N xs (d + 40) 308 [.ref 318] n s false) := by
  obtain ⟨hB, ⟨o, ro, H, hS⟩, hK, hTp, ⟨p, A, Ss, hP, hA, hPs⟩, h8, h13, h25⟩ := id h
  have hT := hB.1
  have h338 := hT.2.2
  have hw := hS.2.1.1
  have hH6 := hS.2.1.2.1
  have hTe := fun ci => tk_ex (ci := ci) hT hB.2.2.2.2.2
  have hwe : upr I n (fun _ => (0 : Int32)) 319 0 = nI H := by rw [upr_ne (by omega)]; exact hw
  obtain ⟨T, tv, t1, t2, t3, t4, t5, t6⟩ := id hTp
  have t2e : upr (up2 I 0 7 (nI 0)) n (fun _ => (0 : Int32)) 318 9 = nI T := by rw [upr_ne (by omega), up2_row (by decide)]; exact t2
  have t6e : TpW (upr (up2 I 0 7 (nI 0)) n (fun _ => (0 : Int32)) 324) tv := by rw [upr_ne (by omega), up2_row (by decide)]; exact t6
  obtain ⟨dr, hdr⟩ := dr_ex hS.1.2.2.2
  refine w_net (d := d + 38) (TK.k1 hT rfl) ?_
  by_cases hz : T = 0
  · refine c_net0 (d := d + 34) hT (by omega) (by omega) t1 t3 t4 t5 hz (fun hr => ?_) (fun hr => ?_)
    · exact wrq_e1 (mide_of hB (up2_row (by decide))) (m_netE (d := d + 36) (hTe 14) t2e t3 t6e hr (fun M hM => us_e h hn hM))
    · subst hz
      have eJ : ∀ a, (1 ≤ a ∧ a < 46) ∨ 174 ≤ a → up2 I 0 7 (nI 0) a = I a := fun a ha => up2_row (by omega)
      refine wrq_v hT (mid_of hB (eJ lmScr (Or.inr (by decide)))) (m_net0 (d := d + 36) hT (by rw [eJ 318 (by omega)]; exact t2) (by decide) (by rw [eJ 324 (by omega)]; exact t6) hr (fun M hM => ?_))
      exact us_v h eJ (fun j hj => by rw [up2_same, if_neg hj]) up2_hit hM
  · refine c_net1 (d := d + 34) hT (by omega) (by omega) t1 t3 t4 t5 (by omega) (fun hr => ?_) (fun hr => ?_)
    · exact wrq_e1 (mide_of hB (up2_row (by decide))) (m_netE (d := d + 36) (hTe 14) t2e t3 t6e hr (fun M hM => us_e h hn hM))
    · have hT4 := netB_4 hr
      have htl := netB_lt hr
      have hp1 : 1 ≤ 2 ^ T := Nat.one_le_two_pow
      have hp2 : 2 ≤ 2 ^ T := Nat.le_trans (show 2 ≤ 2 ^ 1 by decide) (Nat.pow_le_pow_right (by decide) (by omega))
      generalize hJ : netsM (up2 I 0 7 (nI 0)) (fdN (I 1 11) tv T (fun j => I (50 + j)) (2 ^ T - 1)) = J
      have eJ : ∀ a, (1 ≤ a ∧ a < 46) ∨ 174 ≤ a → J a = I a := fun a ha => by rw [← hJ]; unfold netsM; rw [if_neg (by omega), up2_row (by omega)]
      have e0 : ∀ j, j ≠ 7 → J 0 j = I 0 j := fun j hj => by rw [← hJ]; unfold netsM; rw [if_neg (by omega), up2_same, if_neg hj]
      have e7 : J 0 7 = nI 0 := by rw [← hJ]; unfold netsM; rw [if_neg (by omega), up2_hit]
      refine wrq_v hT (mid_of hB (eJ lmScr (Or.inr (by decide)))) (m_net (d := d + 36) hT (by rw [eJ 318 (by omega)]; exact t2) t3 (by rw [eJ 324 (by omega)]; exact t6) hr (by omega) (dr := dr) (by rw [eJ 319 (by omega)]; exact hdr) (fun a ha M hM => ?_))
      have hb : ∀ c, c < 25 → jshr (I 1 11) (nI c) &&& nI 1 = nI (dr c) ∧ dr c ≤ 1 := fun c hc => ⟨by rw [(sim_r0 hS.1).2.1, dr_01 hS.1.2.2.2 hc]; exact (hdr c hc).1, (hdr c hc).2⟩
      have hv : netV (I 1 11) tv T (fun j => I (50 + j)) = nI (a (2 ^ T - 1) 24) := by
        unfold netV
        rw [if_neg hz]
        exact (net_eq hT4 htl hb ha (2 ^ T - 1) (by omega) (2 ^ T - 1) 24 (by omega) (Nat.le_refl _) (by decide)).1
      rw [hv]
      exact us_v h eJ e0 e7 hM
