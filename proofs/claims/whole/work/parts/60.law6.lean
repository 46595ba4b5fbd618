/-! A TEXT OF THE LAW, whole -/
theorem lw_upx {I : Mem} {st : Sz} {p a j : Nat} {v : Int32} (h1 : a ≠ 39) (h2 : a ≠ 45) (h3 : a ≠ 41 ∨ j ≠ 6) : up2 (lw I st p) a j v = lw (up2 I a j v) st p := by
  unfold lw
  rw [rdM_up2 h1]
  congr 1
  unfold lw0
  funext b i
  by_cases e : b = a
  · subst e
    rw [up2_same]
    by_cases e2 : b = 41
    · subst e2
      rw [up2_same, up2_same, upr_ne h2, upr_ne h2, up2_same]
      by_cases q : i = j
      · rw [if_pos q]
        rcases h3 with h3 | h3
        · exact absurd rfl h3
        · rw [if_neg (by omega), if_pos q]
      · rw [if_neg q]
        by_cases q6 : i = 6
        · rw [if_pos q6, if_pos q6]
        · rw [if_neg q6, if_neg q6, if_neg q]
    · rw [up2_row e2, up2_row e2, upr_ne h2, upr_ne h2, up2_same]
  · rw [up2_row e]
    by_cases e2 : b = 41
    · subst e2
      rw [up2_same, up2_same]
      rw [upr_ne (by decide), upr_ne (by decide), up2_row e]
    · rw [up2_row e2, up2_row e2]
      by_cases e5 : b = 45
      · subst e5; rw [upr_same, upr_same]
      · rw [upr_ne e5, upr_ne e5, up2_row e]
def kinW : List (List Nat) := [[100, 114, 121], [115, 111, 97, 107], [115, 105, 110, 107]]
/-- a line's head: its kind, its number, where it goes on; or where it is wrong -/
def hedF (tv : Nat → Nat) (T p : Nat) : Nat ⊕ (Nat × Nat × Nat) := match wd tv T p kinW with
  | none => .inl p
  | some k => (match numR tv T (af tv T p) (nI 0) (nI 20) with
    | none => .inl (af tv T p)
    | some x => .inr (k, x.1, x.2))
def hedM (I : Mem) (i k v : Nat) : Mem := up2 (up2 I 42 i (nI k)) 43 i (nI v)
def cndF (tv : Nat → Nat) (T : Nat) (st : Sz) (p : Nat) : Re := if wdB tv T p kIf = true then anyF tv T (atoF tv T 6) st (af tv T p) else (true, st, p)
def linM (I : Mem) (i z : Nat) : Mem := up2 (up2 I 41 5 (nI (i + 1))) 44 (i + 1) (nI z)
abbrev Rw : Type := Bool × Mem × Sz × Nat
def lawL (tv : Nat → Nat) (T : Nat) : Nat → Nat → Mem → Sz → Nat → Rw
  | 0, _, I, st, p => (false, I, st, p)
  | f + 1, i, I, st, p => match hedF tv T p with
    | .inl q => (false, I, st, q)
    | .inr x => if (cndF tv T st x.2.2).1 = true then (if T ≤ (cndF tv T st x.2.2).2.2 then (true, linM (hedM I i x.1 x.2.1) i (cndF tv T st x.2.2).2.1.2, (cndF tv T st x.2.2).2)
        else if sgn tv T (cndF tv T st x.2.2).2.2 59 then lawL tv T f (i + 1) (linM (hedM I i x.1 x.2.1) i (cndF tv T st x.2.2).2.1.2) (cndF tv T st x.2.2).2.1 (skp tv T ((cndF tv T st x.2.2).2.2 + 1))
        else (false, linM (hedM I i x.1 x.2.1) i (cndF tv T st x.2.2).2.1.2, (cndF tv T st x.2.2).2)) else (false, hedM I i x.1 x.2.1, (cndF tv T st x.2.2).2)
def lawA (tv : Nat → Nat) (T : Nat) (I : Mem) (p : Nat) : Rw := if T ≤ p then (true, up2 I 41 5 (nI 0), (I 45, 0), p) else lawL tv T 12 0 (up2 I 41 5 (nI 0)) (I 45, 0) p
theorem hedF_n {tv : Nat → Nat} {T p : Nat} (h : wd tv T p kinW = none) : hedF tv T p = .inl p := by unfold hedF; rw [h]
theorem hedF_v {tv : Nat → Nat} {T p k : Nat} (h : wd tv T p kinW = some k) (h2 : numR tv T (af tv T p) (nI 0) (nI 20) = none) : hedF tv T p = .inl (af tv T p) := by unfold hedF; rw [h]; dsimp only; rw [h2]
theorem hedF_s {tv : Nat → Nat} {T p k v q : Nat} (h : wd tv T p kinW = some k) (h2 : numR tv T (af tv T p) (nI 0) (nI 20) = some (v, q)) : hedF tv T p = .inr (k, v, q) := by unfold hedF; rw [h]; dsimp only; rw [h2]
theorem RdI_x {I : Mem} {T a k : Nat} {tv : Nat → Nat} {v : Int32} (h : RdI I T tv) (h1 : a ≠ 38) (h2 : a ≠ 39) : RdI (up2 I a k v) T tv := RdI_up2 h h1 h2
theorem hed_rd {I : Mem} {T i k v : Nat} {tv : Nat → Nat} (h : RdI I T tv) : RdI (hedM I i k v) T tv := RdI_up2 (RdI_up2 h (by decide) (by decide)) (by decide) (by decide)
theorem lin_rd {I : Mem} {T i z : Nat} {tv : Nat → Nat} (h : RdI I T tv) : RdI (linM I i z) T tv := RdI_up2 (RdI_up2 h (by decide) (by decide)) (by decide) (by decide)
theorem hed_ss {K : Nat → Nat × Nat} {I : Mem} {R : Nat → Nat → Option Nat} {i k v : Nat} (h : SS K I R) : SS K (hedM I i k v) R := SS_up2 (SS_up2 h (by decide)) (by decide)
theorem lin_ss {K : Nat → Nat × Nat} {I : Mem} {R : Nat → Nat → Option Nat} {i z : Nat} (h : SS K I R) : SS K (linM I i z) R := SS_up2 (SS_up2 h (by decide)) (by decide)
theorem lw_init {I : Mem} {p : Nat} : rdM (up2 (up2 I 41 5 (nI 0)) 41 6 (nI 0)) p = lw (up2 I 41 5 (nI 0)) (I 45, 0) p := by
  unfold lw lw0
  rw [show I 45 = up2 I 41 5 (nI 0) 45 from (up2_row (by decide)).symm, upr_id]
theorem lw_5 {I : Mem} {st : Sz} {p : Nat} {v : Int32} : lw (up2 I 41 5 v) st p 41 5 = v := by
  unfold lw; rw [rdM_o (by decide)]; unfold lw0; rw [up2_same, if_neg (by decide), upr_ne (by decide), up2_hit]

theorem c_head_n {d : Nat} {K : Nat → Nat × Nat} {I : Nat → Nat → Int32} {L : Nat → Nat → Int64} {R : Nat → Nat → Option Nat} {n s : Nat} {Q : Lo → Lm → Prop} {T p : Nat} {tv : Nat → Nat} {st : Sz} {i k : Nat} (hT : TK K R n) (hR : RdI I T tv) (hS : SS K I R) (hi : i < 12) (hp : p ≤ T) (hk : wd tv T p kinW = none) (kk0 : ∀ q, hedF tv T p = .inl q → q ≤ T → Q (.inl (some (.int (nI 0)))) (K, lw I st q, L, R, n, s)) (kk : ∀ k v q, hedF tv T p = .inr (k, v, q) → q ≤ T → Q (.inl (some (.int (nI 1)))) (K, lw (hedM I i k v) st q, L, R, n, s)) : Ok (d + 5) 98 [.ref 41, .int (nI i)] (K, lw I (st) (p), L, R, n, s) Q := by
  obtain ⟨-, -, hn⟩ := id hT
  have hRl : ∀ st, RdI (lw0 I st) T tv := fun st => lw0_rd hR
  have hSl : ∀ st, SS K (lw0 I st) R := fun st => lw0_ss hS
  refine Ok.enter (F := F_98) (ls := [.ref 41, .int (nI i), lDead, lDead]) rfl rfl ?_
  refine wp_aload0 (pc' := 1) rfl rfl ?_
  refine wp_getRF (pc' := 4) rfl rfl (by first | exact TK.k1 hT rfl | exact TK.kk hT rfl | exact TK.r hT rfl | assumption) (by first | exact TK.k1 hT rfl | exact TK.kk hT rfl | exact TK.r hT rfl | assumption) rfl ?_
  refine wp_pool (v := .ref (lmB + 14)) (pc' := 6) rfl rfl rfl rfl rfl ?_
  refine wp_callV2 (pc' := 9) rfl rfl rfl rfl rfl (by first | exact TK.k1 hT rfl | exact TK.kk hT rfl | exact TK.r hT rfl | assumption) rfl rfl ?_
  change Ok _ _ _ (K, rdM (lw0 I st) p, L, R, n, s) _
  refine c_pick (w := 7) kinW hT (hRl _) (hSl _) (by decide) (by decide) (by decide) hp (fun h => ?_) (fun k2 h => absurd (hk.symm.trans h) (by simp))
  refine Cont.v ?_
  refine wp_istore2 (pc' := 10) rfl (by first | rfl | assumption) rfl ?_
  refine wp_iload2 (pc' := 11) rfl rfl ?_
  refine wp_iconst (v := (-1)) (pc' := 12) rfl rfl rfl ?_
  refine wp_icmpneF (pc' := 15) rfl rfl rfl ?_
  refine wp_iconst (v := (-1)) (pc' := 16) rfl rfl rfl ?_
  refine wp_goto rfl ?_
  refine wp_istore3 (pc' := 30) rfl (by first | rfl | assumption) rfl ?_
  refine wp_iload3 (pc' := 31) rfl rfl ?_
  refine wp_iconst (v := (-1)) (pc' := 32) rfl rfl rfl ?_
  refine wp_icmpneF (pc' := 35) rfl rfl rfl ?_
  refine wp_iconst (v := nI 0) (pc' := 36) rfl rfl rfl ?_
  refine wp_iret rfl rfl (by first | rfl | exact nar_if) ?_
  exact kk0 p (hedF_n hk) hp
theorem c_head_s {d : Nat} {K : Nat → Nat × Nat} {I : Nat → Nat → Int32} {L : Nat → Nat → Int64} {R : Nat → Nat → Option Nat} {n s : Nat} {Q : Lo → Lm → Prop} {T p : Nat} {tv : Nat → Nat} {st : Sz} {i k : Nat} (hT : TK K R n) (hR : RdI I T tv) (hS : SS K I R) (hi : i < 12) (hp : p ≤ T) (hk : wd tv T p kinW = some k) (kk0 : ∀ q, hedF tv T p = .inl q → q ≤ T → Q (.inl (some (.int (nI 0)))) (K, lw I st q, L, R, n, s)) (kk : ∀ k v q, hedF tv T p = .inr (k, v, q) → q ≤ T → Q (.inl (some (.int (nI 1)))) (K, lw (hedM I i k v) st q, L, R, n, s)) : Ok (d + 5) 98 [.ref 41, .int (nI i)] (K, lw I (st) (p), L, R, n, s) Q := by
  obtain ⟨-, -, hn⟩ := id hT
  have hRl : ∀ st, RdI (lw0 I st) T tv := fun st => lw0_rd hR
  have hSl : ∀ st, SS K (lw0 I st) R := fun st => lw0_ss hS
  refine Ok.enter (F := F_98) (ls := [.ref 41, .int (nI i), lDead, lDead]) rfl rfl ?_
  refine wp_aload0 (pc' := 1) rfl rfl ?_
  refine wp_getRF (pc' := 4) rfl rfl (by first | exact TK.k1 hT rfl | exact TK.kk hT rfl | exact TK.r hT rfl | assumption) (by first | exact TK.k1 hT rfl | exact TK.kk hT rfl | exact TK.r hT rfl | assumption) rfl ?_
  refine wp_pool (v := .ref (lmB + 14)) (pc' := 6) rfl rfl rfl rfl rfl ?_
  refine wp_callV2 (pc' := 9) rfl rfl rfl rfl rfl (by first | exact TK.k1 hT rfl | exact TK.kk hT rfl | exact TK.r hT rfl | assumption) rfl rfl ?_
  change Ok _ _ _ (K, rdM (lw0 I st) p, L, R, n, s) _
  refine c_pick (w := 7) kinW hT (hRl _) (hSl _) (by decide) (by decide) (by decide) hp (fun h => absurd (hk.symm.trans h) (by simp)) (fun k2 h => ?_)
  obtain rfl : k = k2 := by rw [hk] at h; cases h; rfl
  refine Cont.v ?_
  refine wp_istore2 (pc' := 10) rfl (by first | rfl | assumption) rfl ?_
  refine wp_iload2 (pc' := 11) rfl rfl ?_
  refine wp_iconst (v := (-1)) (pc' := 12) rfl rfl rfl ?_
  refine wp_icmpneT rfl (nI_nm1 (by have := (pickW_lt _ _ _ hk).2; have : k < 3 := this; omega)) ?_
  refine wp_aload0 (pc' := 20) rfl rfl ?_
  refine wp_getRF (pc' := 23) rfl rfl (by first | exact TK.k1 hT rfl | exact TK.kk hT rfl | exact TK.r hT rfl | assumption) (by first | exact TK.k1 hT rfl | exact TK.kk hT rfl | exact TK.r hT rfl | assumption) rfl ?_
  refine wp_iconst (v := nI 0) (pc' := 24) rfl rfl rfl ?_
  refine wp_bipush (v := nI 20) (pc' := 26) rfl rfl rfl ?_
  refine wp_callV3 (pc' := 29) rfl rfl rfl rfl rfl (by first | exact TK.k1 hT rfl | exact TK.kk hT rfl | exact TK.r hT rfl | assumption) rfl rfl ?_
  change Ok _ _ _ (K, rdM (lw0 I st) (af tv T p), L, R, n, s) _
  refine c_takeNumber hT (hRl _) (af_ge hp).2 ?_
  refine Cont.v ?_
  refine wp_istore3 (pc' := 30) rfl (by first | rfl | assumption) rfl ?_
  refine wp_iload3 (pc' := 31) rfl rfl ?_
  refine wp_iconst (v := (-1)) (pc' := 32) rfl rfl rfl ?_
  refine wp_icmpne (pc' := 35) rfl rfl ?_ ?_
  · intro h32
    obtain ⟨v, q1, ev, hlv, hlov, hupv, hqva, hqvb⟩ := num_some (af_ge hp).2 h32
    rw [ev]
    dsimp only [numV, numP]
    change WP _ _ _ _ _ (K, lw I st q1, L, R, n, s) _
    refine wp_aload0 (pc' := 38) rfl rfl ?_
    refine wp_getRF (pc' := 41) rfl rfl (by first | exact TK.k1 hT rfl | exact TK.kk hT rfl | exact TK.r hT rfl | assumption) (by first | exact TK.k1 hT rfl | exact TK.kk hT rfl | exact TK.r hT rfl | assumption) rfl ?_
    refine wp_iload1 (pc' := 42) rfl rfl ?_
    refine wp_iload2 (pc' := 43) rfl rfl ?_
    refine wp_iast _ (pc' := 44) rfl (by first | exact TK.k1 hT rfl | exact TK.kk hT rfl | exact TK.r hT rfl | assumption) (by omega) (by with_reducible rfl) (by omega) (by first | decide | assumption | omega) rfl ?_
    rw [lw_upx (by decide) (by decide) (by omega)]
    refine wp_aload0 (pc' := 45) rfl rfl ?_
    refine wp_getRF (pc' := 48) rfl rfl (by first | exact TK.k1 hT rfl | exact TK.kk hT rfl | exact TK.r hT rfl | assumption) (by first | exact TK.k1 hT rfl | exact TK.kk hT rfl | exact TK.r hT rfl | assumption) rfl ?_
    refine wp_iload1 (pc' := 49) rfl rfl ?_
    refine wp_iload3 (pc' := 50) rfl rfl ?_
    refine wp_iast _ (pc' := 51) rfl (by first | exact TK.k1 hT rfl | exact TK.kk hT rfl | exact TK.r hT rfl | assumption) (by omega) (by with_reducible rfl) (by omega) (by first | decide | assumption | omega) rfl ?_
    rw [lw_upx (by decide) (by decide) (by omega)]
    refine wp_iconst (v := nI 1) (pc' := 52) rfl rfl rfl ?_
    refine wp_iret rfl rfl (by first | rfl | exact nar_if) ?_
    exact kk k v q1 (hedF_s hk ev) hqvb
  · intro h32
    refine wp_iconst (v := nI 0) (pc' := 36) rfl rfl rfl ?_
    refine wp_iret rfl rfl (by first | rfl | exact nar_if) ?_
    have e := num_none (af_ge hp).2 h32
    rw [e]
    exact kk0 (af tv T p) (hedF_v hk e) (af_ge hp).2
theorem c_head {d : Nat} {K : Nat → Nat × Nat} {I : Mem} {L : Nat → Nat → Int64} {R : Nat → Nat → Option Nat} {n s : Nat} {Q : Lo → Lm → Prop} {T p : Nat} {tv : Nat → Nat} {st : Sz} {i : Nat} (hT : TK K R n) (hR : RdI I T tv) (hS : SS K I R) (hi : i < 12) (hp : p ≤ T) (kk0 : ∀ q, hedF tv T p = .inl q → q ≤ T → Q (.inl (some (.int (nI 0)))) (K, lw I st q, L, R, n, s)) (kk : ∀ k v q, hedF tv T p = .inr (k, v, q) → q ≤ T → Q (.inl (some (.int (nI 1)))) (K, lw (hedM I i k v) st q, L, R, n, s)) : Ok (d + 5) 98 [.ref 41, .int (nI i)] (K, lw I st p, L, R, n, s) Q := by
  cases hk : wd tv T p kinW with
  | none => exact c_head_n (k := 0) hT hR hS hi hp hk kk0 kk
  | some k => exact c_head_s hT hR hS hi hp hk kk0 kk
theorem c_lawAll {d : Nat} {K : Nat → Nat × Nat} {I : Nat → Nat → Int32} {L : Nat → Nat → Int64} {R : Nat → Nat → Option Nat} {n s : Nat} {Q : Lo → Lm → Prop} {T p : Nat} {tv : Nat → Nat} (hT : TK K R n) (hR : RdI I T tv) (hS : SS K I R) (hp : p ≤ T) (kk : ∀ b J st2 q, lawA tv T I p = (b, J, st2, q) → st2.2 ≤ 400 → q ≤ T → Q (.inl (some (.int (if b = true then nI 1 else nI 0)))) (K, lw J st2 q, L, R, n, s)) : Ok (d + 27) 97 [.ref 41] (K, rdM I p, L, R, n, s) Q := by
  obtain ⟨-, -, hn⟩ := id hT
  refine Ok.enter (F := F_97) (ls := [.ref 41, lDead]) rfl rfl ?_
  refine wp_aload0 (pc' := 1) rfl rfl ?_
  refine wp_iconst (v := nI 0) (pc' := 2) rfl rfl rfl ?_
  refine wp_putI (pc' := 5) rfl rfl (TK.k1 hT rfl) (by omega) rfl ?_
  rw [rdM_up2 (by decide)]
  refine wp_aload0 (pc' := 6) rfl rfl ?_
  refine wp_iconst (v := nI 0) (pc' := 7) rfl rfl rfl ?_
  refine wp_putI (pc' := 10) rfl rfl (TK.k1 hT rfl) (by omega) rfl ?_
  rw [rdM_up2 (by decide), show rdM (up2 (up2 I 41 5 (nI 0)) 41 6 (nI 0)) p = lw (up2 I 41 5 (nI 0)) (I 45, 0) p from lw_init]
  refine wp_aload0 (pc' := 11) rfl rfl ?_
  refine wp_getRF (pc' := 14) rfl rfl (by first | exact TK.k1 hT rfl | exact TK.kk hT rfl | exact TK.r hT rfl | assumption) (by first | exact TK.k1 hT rfl | exact TK.kk hT rfl | exact TK.r hT rfl | assumption) rfl ?_
  refine wp_callV1 (pc' := 17) rfl rfl rfl rfl rfl (by first | exact TK.k1 hT rfl | exact TK.kk hT rfl | exact TK.r hT rfl | assumption) rfl rfl ?_
  change Ok _ _ _ (K, rdM (lw0 (up2 I 41 5 (nI 0)) (I 45, 0)) p, L, R, n, s) _
  refine c_isDone hT (lw0_rd (RdI_up2 hR (by decide) (by decide))) hp ?_
  refine Cont.v ?_
  first | refine wp_ifeqB (pc' := 20) rfl rfl ?_ ?_ | refine wp_ifeq (pc' := 20) rfl rfl ?_ ?_
  · intro h17
    refine wp_iconst (v := nI 0) (pc' := 23) rfl rfl rfl ?_
    refine wp_istore1 (pc' := 24) rfl (by first | rfl | assumption) rfl ?_
    have lp24 : ∀ r (i : Nat) (J : Mem) (st1 : Sz) (q2 : Nat), i + r = 12 → RdI J T tv → SS K J R → st1.2 ≤ 400 → q2 ≤ T → lawL tv T (12 - i) i J st1 q2 = lawL tv T 12 0 (up2 I 41 5 (nI 0)) (I 45, 0) p → WP (d + 26) F_97 24 [.ref 41, .int (nI i)] [] (K, lw J st1 q2, L, R, n, s) Q := by
      intro r; induction r with
      | zero =>
        intro i J st1 q2 hi hv0 hv1 hv2 hv3 hv4
        have hi2 : i = 12 := by omega
        skip
        refine wp_iload1 (pc' := 25) rfl rfl ?_
        refine wp_bipush (v := nI 12) (pc' := 27) rfl rfl rfl ?_
        refine wp_icmpgeT rfl (nI_nlt (by omega) (by omega)) ?_
        refine wp_iconst (v := nI 0) (pc' := 113) rfl rfl rfl ?_
        refine wp_iret rfl rfl (by first | rfl | exact nar_if) ?_
        exact kk false J st1 q2 (by unfold lawA; rw [if_neg h17]; rw [← hv4, show 12 - i = 0 by omega]; rfl) hv2 hv3
      | succ r ih =>
        intro i J st1 q2 hi hv0 hv1 hv2 hv3 hv4
        have hlt : i < 12 := by omega
        refine wp_iload1 (pc' := 25) rfl rfl ?_
        refine wp_bipush (v := nI 12) (pc' := 27) rfl rfl rfl ?_
        refine wp_icmpgeF (pc' := 30) rfl (nI_lt (by omega) (by omega)) rfl ?_
        refine wp_aload0 (pc' := 31) rfl rfl ?_
        refine wp_iload1 (pc' := 32) rfl rfl ?_
        refine wp_callV2 (pc' := 35) rfl rfl rfl rfl rfl (by first | exact TK.k1 hT rfl | exact TK.kk hT rfl | exact TK.r hT rfl | assumption) rfl rfl ?_
        refine c_head hT hv0 hv1 (by omega) hv3 (fun q eh hq => ?_) (fun k v q eh hq => ?_)
        · refine Cont.v ?_
          refine wp_ifeqT rfl rfl ?_
          refine wp_iconst (v := nI 0) (pc' := 59) rfl rfl rfl ?_
          refine wp_iret rfl rfl rfl ?_
          exact kk false J st1 q (by unfold lawA; rw [if_neg h17]; rw [← hv4, show 12 - i = (12 - (i + 1)) + 1 by omega, lawL, eh]) hv2 hq
        refine Cont.v ?_
        refine wp_ifeqF (pc' := 38) rfl (by decide) rfl ?_
        refine wp_aload0 (pc' := 39) rfl rfl ?_
        refine wp_getRF (pc' := 42) rfl rfl (by first | exact TK.k1 hT rfl | exact TK.kk hT rfl | exact TK.r hT rfl | assumption) (by first | exact TK.k1 hT rfl | exact TK.kk hT rfl | exact TK.r hT rfl | assumption) rfl ?_
        refine wp_pool (v := .ref (lmB + 16)) (pc' := 44) rfl rfl rfl rfl rfl ?_
        refine wp_callV2 (pc' := 47) rfl rfl rfl rfl rfl (by first | exact TK.k1 hT rfl | exact TK.kk hT rfl | exact TK.r hT rfl | assumption) rfl rfl ?_
        change Ok _ _ _ (K, rdM (lw0 (hedM J i k v) st1) q, L, R, n, s) _
        refine c_word (w := 8) kIf hT (lw0_rd (hed_rd hv0)) (lw0_ss (hed_ss hv1)) (by decide) (by decide) (by decide) hq ?_
        refine Cont.v ?_
        first | refine wp_ifeqB (pc' := 50) rfl rfl ?_ ?_ | refine wp_ifeq (pc' := 50) rfl rfl ?_ ?_
        · intro h47
          first | (obtain ⟨st4, q4, ec, hz4, hq4, hm⟩ : ∃ st4 q4, cndF tv T st1 q = (true, st4, q4) ∧ st4.2 ≤ 400 ∧ q4 ≤ T ∧ lw (hedM J i k v) st3 q3 = lw (hedM J i k v) st4 q4 := ⟨st3, q3, (by unfold cndF; rw [if_pos h47, e3, show b = true from h55]), hz3, hq3, rfl⟩; rw [hm]) | (obtain ⟨st4, q4, ec, hz4, hq4, hm⟩ : ∃ st4 q4, cndF tv T st1 q = (true, st4, q4) ∧ st4.2 ≤ 400 ∧ q4 ≤ T ∧ rdM (lw0 (hedM J i k v) st1) (afB tv T q kIf) = lw (hedM J i k v) st4 q4 := ⟨st1, q, (by unfold cndF; rw [if_neg h47]), hv2, hq, (by rw [afB_f h47]; rfl)⟩; rw [hm])
          refine wp_aload0 (pc' := 61) rfl rfl ?_
          refine wp_iload1 (pc' := 62) rfl rfl ?_
          refine wp_iconst (v := nI 1) (pc' := 63) rfl rfl rfl ?_
          first | refine wp_iaddN (pc' := 64) rfl (by with_reducible rfl) (by with_reducible rfl) rfl ?_ | refine wp_iadd (pc' := 64) rfl rfl ?_
          refine wp_putI (pc' := 67) rfl rfl (by first | exact TK.k1 hT rfl | exact TK.kk hT rfl | exact TK.r hT rfl | assumption) (by omega) rfl ?_
          rw [lw_upx (by decide) (by decide) (by omega)]
          refine wp_aload0 (pc' := 68) rfl rfl ?_
          refine wp_getRF (pc' := 71) rfl rfl (by first | exact TK.k1 hT rfl | exact TK.kk hT rfl | exact TK.r hT rfl | assumption) (by first | exact TK.k1 hT rfl | exact TK.kk hT rfl | exact TK.r hT rfl | assumption) rfl ?_
          refine wp_aload0 (pc' := 72) rfl rfl ?_
          refine wp_getI (pc' := 75) rfl rfl (by first | exact TK.k1 hT rfl | exact TK.kk hT rfl | exact TK.r hT rfl | assumption) rfl ?_
          rw [show lw (up2 (hedM J i k v) 41 5 (nI (i + 1))) st4 q4 41 5 = nI (i + 1) from lw_5]
          refine wp_aload0 (pc' := 76) rfl rfl ?_
          refine wp_getI (pc' := 79) rfl rfl (by first | exact TK.k1 hT rfl | exact TK.kk hT rfl | exact TK.r hT rfl | assumption) rfl ?_
          try rw [lw_6]
          refine wp_iast (i + 1) (pc' := 80) rfl (TK.kk hT rfl) (by omega) rfl (by omega) (by decide) rfl ?_
          rw [lw_upx (by decide) (by decide) (by omega)]
          refine wp_aload0 (pc' := 81) rfl rfl ?_
          refine wp_getRF (pc' := 84) rfl rfl (by first | exact TK.k1 hT rfl | exact TK.kk hT rfl | exact TK.r hT rfl | assumption) (by first | exact TK.k1 hT rfl | exact TK.kk hT rfl | exact TK.r hT rfl | assumption) rfl ?_
          refine wp_callV1 (pc' := 87) rfl rfl rfl rfl rfl (by first | exact TK.k1 hT rfl | exact TK.kk hT rfl | exact TK.r hT rfl | assumption) rfl rfl ?_
          change Ok _ _ _ (K, rdM (lw0 (linM (hedM J i k v) i st4.2) st4) q4, L, R, n, s) _
          refine c_isDone hT (lw0_rd (lin_rd (hed_rd hv0))) hq4 ?_
          refine Cont.v ?_
          first | refine wp_ifeqB (pc' := 90) rfl rfl ?_ ?_ | refine wp_ifeq (pc' := 90) rfl rfl ?_ ?_
          · intro h87
            refine wp_aload0 (pc' := 93) rfl rfl ?_
            refine wp_getRF (pc' := 96) rfl rfl (by first | exact TK.k1 hT rfl | exact TK.kk hT rfl | exact TK.r hT rfl | assumption) (by first | exact TK.k1 hT rfl | exact TK.kk hT rfl | exact TK.r hT rfl | assumption) rfl ?_
            refine wp_bipush (v := nI 59) (pc' := 98) rfl rfl rfl ?_
            refine wp_callV2 (pc' := 101) rfl rfl rfl rfl rfl (by first | exact TK.k1 hT rfl | exact TK.kk hT rfl | exact TK.r hT rfl | assumption) rfl rfl ?_
            change Ok _ _ _ (K, rdM (lw0 (linM (hedM J i k v) i st4.2) st4) q4, L, R, n, s) _
            refine c_takeSign hT (lw0_rd (lin_rd (hed_rd hv0))) hq4 (by decide) (fun hsg => ?_) (fun hsg => ?_)
            · refine Cont.v ?_
              refine wp_ifneF (pc' := 104) rfl rfl rfl ?_
              refine wp_iconst (v := nI 0) (pc' := 105) rfl rfl rfl ?_
              refine wp_iret rfl rfl rfl ?_
              exact kk false _ st4 q4 (by unfold lawA; rw [if_neg h17]; rw [← hv4, show 12 - i = (12 - (i + 1)) + 1 by omega, lawL, eh]; dsimp only; rw [ec, if_pos rfl, if_neg h87, if_neg hsg]) hz4 hq4
            refine Cont.v ?_
            refine wp_ifneT rfl (by decide) ?_
            first | refine wp_iinc1 (w := nI 1) (pc' := 109) rfl rfl rfl (by with_reducible exact nI_add _ _) rfl ?_ | refine wp_iinc1 (w := nI 1) (pc' := 109) rfl rfl rfl rfl rfl ?_
            refine wp_goto rfl ?_
            exact WP.cg (ih (i + 1) _ st4 (skp tv T (q4 + 1)) (by omega) (lin_rd (hed_rd hv0)) (lin_ss (hed_ss hv1)) hz4 (skp_ge (p := q4 + 1) hsg.1).2 (by rw [show 12 - i = (12 - (i + 1)) + 1 by omega, lawL, eh] at hv4; dsimp only at hv4; rw [ec, if_pos rfl, if_neg h87, if_pos hsg] at hv4; exact hv4)) (lC1 (lI1 (by rfl) rfl)) rfl (by rfl)
          · intro h87
            refine wp_iconst (v := nI 1) (pc' := 91) rfl rfl rfl ?_
            refine wp_iret rfl rfl (by first | rfl | exact nar_if) ?_
            exact kk true _ st4 q4 (by unfold lawA; rw [if_neg h17]; rw [← hv4, show 12 - i = (12 - (i + 1)) + 1 by omega, lawL, eh]; dsimp only; rw [ec, if_pos rfl, if_pos h87]) hz4 hq4
        · intro h47
          refine wp_aload0 (pc' := 51) rfl rfl ?_
          refine wp_iconst (v := nI 0) (pc' := 52) rfl rfl rfl ?_
          refine wp_callV2 (pc' := 55) rfl rfl rfl rfl rfl (by first | exact TK.k1 hT rfl | exact TK.kk hT rfl | exact TK.r hT rfl | assumption) rfl rfl ?_
          rw [afB_t h47]
          change Ok _ _ _ (K, lw (hedM J i k v) st1 (af tv T q), L, R, n, s) _
          refine c_readAny hT (hed_rd hv0) (hed_ss hv1) hv2 (af_ge hq).2 (fun b st3 q3 e3 hz3 hq3 => ?_)
          refine Cont.v ?_
          first | refine wp_ifneB (pc' := 58) rfl rfl ?_ ?_ | refine wp_ifne (pc' := 58) rfl rfl ?_ ?_
          · intro h55
            first | (obtain ⟨st4, q4, ec, hz4, hq4, hm⟩ : ∃ st4 q4, cndF tv T st1 q = (true, st4, q4) ∧ st4.2 ≤ 400 ∧ q4 ≤ T ∧ lw (hedM J i k v) st3 q3 = lw (hedM J i k v) st4 q4 := ⟨st3, q3, (by unfold cndF; rw [if_pos h47, e3, show b = true from h55]), hz3, hq3, rfl⟩; rw [hm]) | (obtain ⟨st4, q4, ec, hz4, hq4, hm⟩ : ∃ st4 q4, cndF tv T st1 q = (true, st4, q4) ∧ st4.2 ≤ 400 ∧ q4 ≤ T ∧ rdM (lw0 (hedM J i k v) st1) (afB tv T q kIf) = lw (hedM J i k v) st4 q4 := ⟨st1, q, (by unfold cndF; rw [if_neg h47]), hv2, hq, (by rw [afB_f h47]; rfl)⟩; rw [hm])
            refine wp_aload0 (pc' := 61) rfl rfl ?_
            refine wp_iload1 (pc' := 62) rfl rfl ?_
            refine wp_iconst (v := nI 1) (pc' := 63) rfl rfl rfl ?_
            first | refine wp_iaddN (pc' := 64) rfl (by with_reducible rfl) (by with_reducible rfl) rfl ?_ | refine wp_iadd (pc' := 64) rfl rfl ?_
            refine wp_putI (pc' := 67) rfl rfl (by first | exact TK.k1 hT rfl | exact TK.kk hT rfl | exact TK.r hT rfl | assumption) (by omega) rfl ?_
            rw [lw_upx (by decide) (by decide) (by omega)]
            refine wp_aload0 (pc' := 68) rfl rfl ?_
            refine wp_getRF (pc' := 71) rfl rfl (by first | exact TK.k1 hT rfl | exact TK.kk hT rfl | exact TK.r hT rfl | assumption) (by first | exact TK.k1 hT rfl | exact TK.kk hT rfl | exact TK.r hT rfl | assumption) rfl ?_
            refine wp_aload0 (pc' := 72) rfl rfl ?_
            refine wp_getI (pc' := 75) rfl rfl (by first | exact TK.k1 hT rfl | exact TK.kk hT rfl | exact TK.r hT rfl | assumption) rfl ?_
            rw [show lw (up2 (hedM J i k v) 41 5 (nI (i + 1))) st4 q4 41 5 = nI (i + 1) from lw_5]
            refine wp_aload0 (pc' := 76) rfl rfl ?_
            refine wp_getI (pc' := 79) rfl rfl (by first | exact TK.k1 hT rfl | exact TK.kk hT rfl | exact TK.r hT rfl | assumption) rfl ?_
            try rw [lw_6]
            refine wp_iast (i + 1) (pc' := 80) rfl (TK.kk hT rfl) (by omega) rfl (by omega) (by decide) rfl ?_
            rw [lw_upx (by decide) (by decide) (by omega)]
            refine wp_aload0 (pc' := 81) rfl rfl ?_
            refine wp_getRF (pc' := 84) rfl rfl (by first | exact TK.k1 hT rfl | exact TK.kk hT rfl | exact TK.r hT rfl | assumption) (by first | exact TK.k1 hT rfl | exact TK.kk hT rfl | exact TK.r hT rfl | assumption) rfl ?_
            refine wp_callV1 (pc' := 87) rfl rfl rfl rfl rfl (by first | exact TK.k1 hT rfl | exact TK.kk hT rfl | exact TK.r hT rfl | assumption) rfl rfl ?_
            change Ok _ _ _ (K, rdM (lw0 (linM (hedM J i k v) i st4.2) st4) q4, L, R, n, s) _
            refine c_isDone hT (lw0_rd (lin_rd (hed_rd hv0))) hq4 ?_
            refine Cont.v ?_
            first | refine wp_ifeqB (pc' := 90) rfl rfl ?_ ?_ | refine wp_ifeq (pc' := 90) rfl rfl ?_ ?_
            · intro h87
              refine wp_aload0 (pc' := 93) rfl rfl ?_
              refine wp_getRF (pc' := 96) rfl rfl (by first | exact TK.k1 hT rfl | exact TK.kk hT rfl | exact TK.r hT rfl | assumption) (by first | exact TK.k1 hT rfl | exact TK.kk hT rfl | exact TK.r hT rfl | assumption) rfl ?_
              refine wp_bipush (v := nI 59) (pc' := 98) rfl rfl rfl ?_
              refine wp_callV2 (pc' := 101) rfl rfl rfl rfl rfl (by first | exact TK.k1 hT rfl | exact TK.kk hT rfl | exact TK.r hT rfl | assumption) rfl rfl ?_
              change Ok _ _ _ (K, rdM (lw0 (linM (hedM J i k v) i st4.2) st4) q4, L, R, n, s) _
              refine c_takeSign hT (lw0_rd (lin_rd (hed_rd hv0))) hq4 (by decide) (fun hsg => ?_) (fun hsg => ?_)
              · refine Cont.v ?_
                refine wp_ifneF (pc' := 104) rfl rfl rfl ?_
                refine wp_iconst (v := nI 0) (pc' := 105) rfl rfl rfl ?_
                refine wp_iret rfl rfl rfl ?_
                exact kk false _ st4 q4 (by unfold lawA; rw [if_neg h17]; rw [← hv4, show 12 - i = (12 - (i + 1)) + 1 by omega, lawL, eh]; dsimp only; rw [ec, if_pos rfl, if_neg h87, if_neg hsg]) hz4 hq4
              refine Cont.v ?_
              refine wp_ifneT rfl (by decide) ?_
              first | refine wp_iinc1 (w := nI 1) (pc' := 109) rfl rfl rfl (by with_reducible exact nI_add _ _) rfl ?_ | refine wp_iinc1 (w := nI 1) (pc' := 109) rfl rfl rfl rfl rfl ?_
              refine wp_goto rfl ?_
              exact WP.cg (ih (i + 1) _ st4 (skp tv T (q4 + 1)) (by omega) (lin_rd (hed_rd hv0)) (lin_ss (hed_ss hv1)) hz4 (skp_ge (p := q4 + 1) hsg.1).2 (by rw [show 12 - i = (12 - (i + 1)) + 1 by omega, lawL, eh] at hv4; dsimp only at hv4; rw [ec, if_pos rfl, if_neg h87, if_pos hsg] at hv4; exact hv4)) (lC1 (lI1 (by rfl) rfl)) rfl (by rfl)
            · intro h87
              refine wp_iconst (v := nI 1) (pc' := 91) rfl rfl rfl ?_
              refine wp_iret rfl rfl (by first | rfl | exact nar_if) ?_
              exact kk true _ st4 q4 (by unfold lawA; rw [if_neg h17]; rw [← hv4, show 12 - i = (12 - (i + 1)) + 1 by omega, lawL, eh]; dsimp only; rw [ec, if_pos rfl, if_pos h87]) hz4 hq4
          · intro h55
            refine wp_iconst (v := nI 0) (pc' := 59) rfl rfl rfl ?_
            refine wp_iret rfl rfl (by first | rfl | exact nar_if) ?_
            obtain rfl : b = false := Bool.eq_false_iff.mpr h55
            exact kk false _ st3 q3 (by unfold lawA; rw [if_neg h17]; rw [← hv4, show 12 - i = (12 - (i + 1)) + 1 by omega, lawL, eh]; dsimp only; rw [show cndF tv T st1 q = (false, st3, q3) from by unfold cndF; rw [if_pos h47, e3]]; rfl) hz3 hq3
    exact WP.cg (lp24 (12 - (0)) (0) _ _ _ (by omega) (RdI_up2 hR (by decide) (by decide)) (SS_up2 hS (by decide)) (Nat.zero_le _) hp rfl) (lC1 (lI1 (by rfl) rfl)) rfl (by rfl)
  · intro h17
    refine wp_iconst (v := nI 1) (pc' := 21) rfl rfl rfl ?_
    refine wp_iret rfl rfl (by first | rfl | exact nar_if) ?_
    exact kk true _ _ p (by unfold lawA; rw [if_pos h17]) (Nat.zero_le _) hp
