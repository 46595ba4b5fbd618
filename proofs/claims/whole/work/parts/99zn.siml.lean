/-! PAIRS: twins, waste, hearths, the log, what was led, rests -/
theorem sim_kpd {N : Nat} {xs : Nat → Int32} {K : Nat → Nat × Nat} {I J : Mem} {L : Nat → Nat → Int64} {R : Nat → Nat → Option Nat} {n : Nat} {o : LawT} {w : Nat → Int32} {ro : RwT} {H : Nat} {v : Option Nat} (h : Sim N xs K I L R n) (hS : StR K R n I 1 o w ro H) (e : KpD o I J) : Sim N xs K J L (up2 R 13 18 v) n := by
  have hB := h.1
  obtain ⟨-, -, -, hT, -, h8, -, -⟩ := id h
  have hla : ∀ la, R 1 18 = some la → 338 ≤ la ∧ la + 6 ≤ n := fun la q => lo_la hS.2.2.1 hS.2.2.2.1 q
  have ol : ∀ a, a < 338 → offL o a := fun a ha => off_of hS.2.2.1 (fun la q => by have := hla la q; omega)
  have e0 : J 0 = I 0 := e.1 0 (by omega) (ol 0 (by decide))
  have e3 : J 318 = I 318 := e.1 318 (by omega) (ol 318 (by decide))
  refine sim_fr h ⟨fun _ _ => rfl, fun a q _ q2 => e.1 a (by unfold Imp at q; omega) (off_of hS.2.2.1 q2), ⟨by rw [e0], by rw [e0], by rw [e3], by rw [e3], by rw [e.1 44 (by omega) (ol 44 (by decide))]⟩, fun _ _ => rfl, fun a j q _ => up2_off q⟩ (Nat.le_refl _) hB.2.2.2.2.2 (tap_ag hT (by rw [e0]) (by rw [e3]) (e.1 38 (by omega) (ol 38 (by decide))) (e.1 324 (by omega) (ol 324 (by decide)))) (by rw [e0, e3]; exact h8) e.2
def uT (S : Mem) (a j : Nat) : Int32 := if S 6 a = S 6 j ∧ S 7 a = S 7 j then nI 1 else nI 0
theorem uT_s {S : Mem} (a j : Nat) : uT S a j = uT S j a := by
  unfold uT
  by_cases e : S 6 a = S 6 j ∧ S 7 a = S 7 j
  · rw [if_pos e, if_pos ⟨e.1.symm, e.2.symm⟩]
  · rw [if_neg e, if_neg (fun q => e ⟨q.1.symm, q.2.symm⟩)]
theorem twI_u {S : Mem} {h lo k : Nat} {x : Int32} : twinI S h x lo k = forN (fun j x => x + uT S h (lo + j)) x k := by
  unfold twinI
  refine forN_cg k (fun j hj f => ?_)
  unfold uT
  split
  · rfl
  · rw [add_0]
theorem twS_u {S : Mem} {H i : Nat} : twinS S H i = forN (fun h x => forN (fun j x => x + uT S h (h + 1 + j)) x (H - (h + 1))) (nI 0) i := by
  unfold twinS
  exact forN_cg i (fun j hj f => twI_u)
theorem twN_u {S : Mem} {i : Nat} : twnS S i = forN (fun a x => forN (fun j x => x + uT S a j) x a) (nI 0) i := rfl
theorem twin_eq {S : Mem} {H : Nat} (hH : H ≤ 6) : twinS S H H = twnS S H := by
  have s := fun a j => uT_s (S := S) a j
  rw [twS_u, twN_u]
  have hc : H = 0 ∨ H = 1 ∨ H = 2 ∨ H = 3 ∨ H = 4 ∨ H = 5 ∨ H = 6 := by omega
  rcases hc with rfl | rfl | rfl | rfl | rfl | rfl | rfl
  all_goals simp only [forN, Nat.reduceAdd, Nat.reduceSub, s 1 0, s 2 0, s 2 1, s 3 0, s 3 1, s 3 2, s 4 0, s 4 1, s 4 2, s 4 3, s 5 0, s 5 1, s 5 2, s 5 3, s 5 4]
  all_goals ac_rfl
theorem twn_row {S S2 : Mem} {H : Nat} (h6 : S 6 = S2 6) (h7 : S 7 = S2 7) : twnS S H = twnS S2 H := by
  rw [twN_u, twN_u]
  refine forN_cg H (fun a ha f => forN_cg a (fun j hj g => ?_))
  unfold uT; rw [h6, h7]
theorem own_bt {S : Mem} {c : Nat} : ∀ H, H ≤ 6 → ∀ j, j < 32 → btI (ownS S c H) j = (decide (j < H) && decide (hasP (S 9 j) c))
  | 0 => fun _ j hj => by rw [decide_eq_false (by omega), Bool.false_and]; exact bt_n0
  | H + 1 => fun hH j hj => by
    have ih := own_bt (S := S) (c := c) H (by omega) j hj
    show btI (if hasP (S 9 H) c then ownS S c H ||| jshl (nI 1) (nI H) else ownS S c H) j = _
    by_cases q : j = H
    · subst q
      rw [decide_eq_true (show j < j + 1 by omega), Bool.true_and]
      rw [decide_eq_false (show ¬ j < j by omega), Bool.false_and] at ih
      by_cases e : hasP (S 9 j) c
      · rw [if_pos e, b_or, bt_s1 j (by omega) j hj, decide_eq_true rfl, Bool.or_true, decide_eq_true e]
      · rw [if_neg e, ih, decide_eq_false e]
    · have hd : decide (j < H + 1) = decide (j < H) := decide_eq_decide.mpr (by omega)
      rw [hd, ← ih]
      by_cases e : hasP (S 9 H) c
      · rw [if_pos e, b_or, bt_s1 H (by omega) j hj, decide_eq_false q, Bool.or_false]
      · rw [if_neg e]
theorem own_0 {S : Mem} {c H : Nat} (hH : H ≤ 6) : ownS S c H = nI 0 ↔ ∀ j, j < H → ¬ hasP (S 9 j) c := by
  constructor
  · intro e j hj q
    have := own_bt (S := S) (c := c) H hH j (by omega)
    rw [e, bt_n0, decide_eq_true hj, decide_eq_true q] at this
    cases this
  · intro e
    refine b_ext (fun j hj => ?_)
    rw [own_bt H hH j hj, bt_n0]
    by_cases q : j < H
    · rw [decide_eq_false (e j q), Bool.and_false]
    · rw [decide_eq_false q, Bool.false_and]
theorem or_bt {D : Nat → Int32} {c : Nat} : ∀ H, btI (orN D H) c = true ↔ ∃ j, j < H ∧ btI (D j) c = true
  | 0 => by
    show btI (nI 0) c = true ↔ _
    rw [bt_n0]
    exact ⟨fun e => (by cases e), fun ⟨j, hj, _⟩ => absurd hj (by omega)⟩
  | H + 1 => by
    show btI (orN D H ||| D H) c = true ↔ _
    rw [b_or, Bool.or_eq_true, or_bt H]
    constructor
    · rintro (⟨j, h1, h2⟩ | e)
      · exact ⟨j, by omega, h2⟩
      · exact ⟨H, by omega, e⟩
    · rintro ⟨j, h1, h2⟩
      by_cases q : j = H
      · subst q; exact Or.inr h2
      · exact Or.inl ⟨j, by omega, h2⟩
theorem was_bt {S : Mem} {H : Nat} {p : Int32} {j : Nat} (hH : H ≤ 6) (hj : j < 25) : ∀ i, i ≤ 25 → btI (wasF S H p i) j = (btI p j && (decide (i ≤ j) || decide (ownS S j H = nI 0)))
  | 0 => fun _ => by
    show btI p j = _
    rw [decide_eq_true (Nat.zero_le j), Bool.true_or, Bool.and_true]
  | i + 1 => fun hi => by
    show btI (wasF S H p i &&& (if ownS S i H = nI 0 then -1 else jshl (nI 1) (nI i) ^^^ (-1))) j = _
    rw [b_and, was_bt hH hj i (by omega)]
    by_cases q : i = j
    · subst q
      rw [decide_eq_true (Nat.le_refl i), Bool.true_or, Bool.and_true, decide_eq_false (show ¬ i + 1 ≤ i by omega), Bool.false_or]
      by_cases e : ownS S i H = nI 0
      · rw [if_pos e, bt_m1 (by omega), decide_eq_true e]
      · rw [if_neg e, bt_nt (by omega), bt_s1 i (by omega) i (by omega), decide_eq_true rfl, decide_eq_false e]; rfl
    · have hd : decide (i + 1 ≤ j) = decide (i ≤ j) := decide_eq_decide.mpr (by omega)
      rw [hd]
      by_cases e : ownS S i H = nI 0
      · rw [if_pos e, bt_m1 (by omega), Bool.and_true]
      · rw [if_neg e, bt_nt (by omega), bt_s1 i (by omega) j (by omega), decide_eq_false (show ¬ j = i from fun z => q z.symm), Bool.not_false, Bool.and_true]
theorem was_low {S : Mem} {H : Nat} {p : Int32} (hp : low25 p) : ∀ i, low25 (wasF S H p i)
  | 0 => hp
  | i + 1 => low25_and (was_low hp i)
theorem waste_eq {S : Mem} {H : Nat} (hH : H ≤ 6) : peatS S &&& (orN (S 9) H ^^^ (-1)) = wasF S H (peatS S) 25 := by
  refine low25_ext (low25_and low_peat) (was_low low_peat 25) (fun j hj => ?_)
  rw [was_bt hH hj 25 (Nat.le_refl _), b_and, bt_nt (by omega), decide_eq_false (show ¬ 25 ≤ j by omega), Bool.false_or]
  congr 1
  by_cases e : ownS S j H = nI 0
  · rw [decide_eq_true e]
    have : ¬ btI (orN (S 9) H) j = true := fun q => by
      obtain ⟨k, h1, h2⟩ := (or_bt H).mp q
      exact (own_0 hH).mp e k h1 ((hasP_bt (by omega)).mpr h2)
    cases q : btI (orN (S 9) H) j
    · rfl
    · exact absurd q this
  · rw [decide_eq_false e]
    have : btI (orN (S 9) H) j = true := by
      cases q : btI (orN (S 9) H) j
      · refine absurd ((own_0 hH).mpr (fun k hk z => ?_)) e
        have := (or_bt (D := S 9) (c := j) H).mpr ⟨k, hk, (hasP_bt (by omega)).mp z⟩
        rw [q] at this; cases this
      · rfl
    rw [this]; rfl
theorem was_row {S S2 : Mem} {H : Nat} {p : Int32} (h9 : S 9 = S2 9) : wasF S H p 25 = wasF S2 H p 25 := by
  unfold wasF
  have e : ∀ c, ownS S c H = ownS S2 c H := fun c => by unfold ownS; rw [h9]
  refine forN_cg 25 (fun c hc f => ?_)
  rw [e c]
theorem sum_nI {D : Nat → Int32} {m : Nat} (hm : m ≤ 1000) : ∀ k, k ≤ 30 → (∀ j, j < k → Bd (D j) m) → Bd (sumN D k) (m * k)
  | 0 => fun _ _ => ⟨0, Nat.zero_le _, rfl⟩
  | k + 1 => fun hk h => by
    obtain ⟨a, a1, a2⟩ := sum_nI hm k (by omega) (fun j hj => h j (by omega))
    obtain ⟨b, b1, b2⟩ := h k (by omega)
    refine ⟨a + b, by rw [Nat.mul_succ]; omega, ?_⟩
    show sumN D k + D k = _
    rw [a2, b2, nI_add]
theorem sum_z {D : Nat → Int32} {H : Nat} : ∀ k, (∀ j, H ≤ j → j < H + k → D j = nI 0) → sumN D (H + k) = sumN D H
  | 0 => fun _ => rfl
  | k + 1 => fun h => by
    show sumN D (H + k) + D (H + k) = _
    rw [h (H + k) (by omega) (by omega), add_0, sum_z k (fun j h1 h2 => h j h1 (by omega))]
theorem sum_6 {w : Nat → Int32} {H : Nat} (hw : WB w H) : sumN (Sv w 8) 6 = sumN (Sv w 8) H := by
  have h6 := hw.2.1
  have := sum_z (D := Sv w 8) (H := H) (6 - H) (fun j h1 h2 => by rw [Sv_8 (by omega)]; exact ((hw.2.2.2.2.2.2.1 j (by omega)).2 h1).1)
  rw [show H + (6 - H) = 6 by omega] at this
  exact this
theorem pos_iff {x : Int32} {m : Nat} (hm : m < 2 ^ 31) (h : Bd x m) : nI 0 < x ↔ ¬ x = nI 0 := by
  obtain ⟨a, a1, rfl⟩ := h
  constructor
  · intro q e; rw [e] at q; exact absurd q (by decide)
  · intro q
    have : a ≠ 0 := fun e => q (by rw [e])
    exact nI_lt (by omega) (by omega)
theorem lack_eq {S : Mem} {w : Nat → Int32} {k : Nat} (h : SimS S w) : lackS S k = lackS (Sv w) k := by unfold lackS; rw [sim_row h (show 7 < 10 by decide), sim_row h (show 8 < 10 by decide)]
theorem share_eq {S : Mem} {w : Nat → Int32} {H k : Nat} (h : SimS S w) (hw : WB w H) (hk : k < 6) : shareS S k = if sumN (Sv w 8) H = nI 0 then nI 0 else nI 100 * w (159 + 4 * k + 2) / sumN (Sv w 8) H := by
  unfold shareS
  have h6 := hw.2.1
  have hb : Bd (sumN (Sv w 8) H) (999 * H) := sum_nI (by decide) H (by omega) (fun j hj => by rw [Sv_8 (by omega)]; exact (hw.2.2.2.2.2.2.1 j (by omega)).1)
  rw [sim_row h (show 8 < 10 by decide), sum_6 hw, Sv_8 hk]
  by_cases e : sumN (Sv w 8) H = nI 0
  · rw [if_pos e, if_neg (fun q => (pos_iff (by omega) hb).mp q e)]
  · rw [if_neg e, if_pos ((pos_iff (by omega) hb).mpr e)]
theorem o_twins {N d : Nat} {xs : Nat → Int32} {K : Nat → Nat × Nat} {I : Mem} {L : Nat → Nat → Int64} {R : Nat → Nat → Option Nat} {n s : Nat} (h : Sim N xs K I L R n) : Ok (d + 40) 55 [.ref 0] (K, I, L, R, n, s) (DirC N xs (d + 40) 356 [.ref 318] n s) := by
  obtain ⟨hB, ⟨o, ro, H, hS⟩, hK, hTp, ⟨p, A, Ss, hP, hA, hPs⟩, h8, h13, h25⟩ := id h
  have hT := hB.1
  have h338 := hT.2.2
  have hw := hS.2.1.1
  have hH6 := hS.2.1.2.1
  refine c_twins (d := d + 39) hT (st_H hS) hH6 ⟨_, rfl, m_twins (d := d + 37) hT hw hH6 ?_, mid0 hB⟩
  rw [twin_eq hH6, twn_row (sim_row hS.1 (show 6 < 10 by decide)) (sim_row hS.1 (show 7 < 10 by decide))]
  exact dir_v h
theorem o_waste {N d : Nat} {xs : Nat → Int32} {K : Nat → Nat × Nat} {I : Mem} {L : Nat → Nat → Int64} {R : Nat → Nat → Option Nat} {n s : Nat} (h : Sim N xs K I L R n) : Ok (d + 40) 56 [.ref 0] (K, I, L, R, n, s) (DirC N xs (d + 40) 357 [.ref 318] n s) := by
  obtain ⟨hB, ⟨o, ro, H, hS⟩, hK, hTp, ⟨p, A, Ss, hP, hA, hPs⟩, h8, h13, h25⟩ := id h
  have hT := hB.1
  have h338 := hT.2.2
  have hw := hS.2.1.1
  have hH6 := hS.2.1.2.1
  refine c_waste (d := d + 38) hT (st_H hS) hH6 ⟨_, rfl, m_waste (d := d + 36) hT hw hH6 ?_, mid0 hB⟩
  rw [waste_eq hH6, was_row (sim_row hS.1 (show 9 < 10 by decide)), peat_eq hS.1]
  exact dir_v h
theorem o_hearth {N d : Nat} {xs : Nat → Int32} {K : Nat → Nat × Nat} {I : Mem} {L : Nat → Nat → Int64} {R : Nat → Nat → Option Nat} {n s : Nat} {x y : Int32} (h : Sim N xs K I L R n) (hn : n + 6 ≤ lmCells) (hs : s + 876 ≤ lmSlots) : Ok (d + 40) 117 [.ref 0, .int x, .int y, .ref 337] (K, I, L, R, n, s) (AftC N xs (d + 40) 286 [.ref 318, .int x, .int y] n s false) := by
  obtain ⟨hB, ⟨o, ro, H, hS⟩, hK, hTp, ⟨p, A, Ss, hP, hA, hPs⟩, h8, h13, h25⟩ := id h
  have hT := hB.1
  have h338 := hT.2.2
  have hw := hS.2.1.1
  have hH6 := hS.2.1.2.1
  have hTe := fun ci => tk_ex (ci := ci) hT hB.2.2.2.2.2
  have hwe : upr I n (fun _ => (0 : Int32)) 319 0 = nI H := by rw [upr_ne (by omega)]; exact hw
  refine w_hearth (d := d + 38) (TK.k1 hT rfl) ?_
  refine c_hearth (d := d + 36) hT (by omega) (by omega) (st_H hS) hH6 (fun hx => ?_) (fun k hk hx hy => ?_) (fun k q hk hq hx hy => ?_)
  · exact wrq_e1 (mide hB) (m_hearthE1 (d := d + 35) (hTe 16) hwe hH6 hx (aft_e h hn (by decide)))
  · subst hx
    exact wrq_e2 (mide hB) (m_hearthE2 (d := d + 35) (hTe 17) hwe hH6 hk hy (aft_e h hn (by decide)))
  · subst hx hy
    refine wrq_v hT (mid0 hB) ?_
    have hq2 : q = 0 ∨ q = 1 ∨ q = 2 ∨ q = 3 ∨ q = 4 ∨ q = 5 ∨ q = 6 := by omega
    rcases hq2 with rfl | rfl | rfl | rfl | rfl | rfl | rfl
    · refine m_hearth0 (d := d + 35) hT hw hH6 hk ?_
      rw [show hearV (vw 1 I) k 0 = I 319 (159 + 4 * k + 0) from sim_h6 (b := 1) (I := I) hS.1 (by omega)]
      exact aft_v h
    · refine m_hearth1 (d := d + 35) hT hw hH6 hk ?_
      rw [show hearV (vw 1 I) k 1 = I 319 (159 + 4 * k + 1) from sim_h7 (b := 1) (I := I) hS.1 (by omega)]
      exact aft_v h
    · refine m_hearth2 (d := d + 35) hT hw hH6 hk ?_
      rw [show hearV (vw 1 I) k 2 = I 319 (159 + 4 * k + 2) from sim_h8 (b := 1) (I := I) hS.1 (by omega)]
      exact aft_v h
    · refine m_hearth3 (d := d + 35) hT hw hH6 hk ?_
      rw [show hearV (vw 1 I) k 3 = I 319 (159 + 4 * k + 3) from sim_h9 (b := 1) (I := I) hS.1 (by omega)]
      exact aft_v h
    · refine m_hearth4 (d := d + 35) hT hw hH6 hk ?_
      rw [show hearV (vw 1 I) k 4 = lackS (Sv (I 319)) k from lack_eq hS.1]
      exact aft_v h
    · refine m_hearth5 (d := d + 35) hT hw hH6 hk ?_
      rw [show hearV (vw 1 I) k 5 = fopS (Sv (I 319)) k from fop_eq hS.1]
      exact aft_v h
    · refine m_hearth6 (d := d + 35) hT hw hH6 hk ?_
      rw [show hearV (vw 1 I) k 6 = _ from share_eq hS.1 hS.2.1 (by omega)]
      exact aft_v h
theorem told_eq {I : Mem} {w : Nat → Int32} {k e g : Nat} (h : LogR (vw 1 I) w) (hg : w 7 = nI g) (hg6 : g ≤ 60) (hk : k < g) (he : e < 5) : toldF I 1 (nI k) e = w (183 + 5 * k + e) := by
  obtain ⟨q, g2, g1, g3, g4, g5, g6, g7⟩ := h
  obtain rfl : g = g2 := eq_nI (hg.symm.trans g6) (by omega) (by omega)
  unfold toldF
  rw [if_neg (show ¬ nI k < nI 0 from nI_pos (by omega)), show I (1 + 10) 2 = nI g from g5, show I (1 + 10) 1 = nI q from g4, if_pos (nI_lt hk (by omega)), tn_nI (by omega), tn_nI (by omega), g7 k e hk he]
  rfl
theorem told_no {I : Mem} {w : Nat → Int32} {e g : Nat} {x : Int32} (h : LogR (vw 1 I) w) (hg : w 7 = nI g) (hg6 : g ≤ 60) (hx : ¬ InR x g) : toldF I 1 x e = -1 := by
  obtain ⟨q, g2, g1, g3, g4, g5, g6, g7⟩ := h
  obtain rfl : g = g2 := eq_nI (hg.symm.trans g6) (by omega) (by omega)
  unfold toldF
  by_cases z : x < nI 0
  · rw [if_pos z]
  · rw [if_neg z, show I (1 + 10) 2 = nI g from g5]
    by_cases y : x < nI g
    · exfalso
      obtain ⟨a, ha, rfl⟩ := nI_of (show ¬ x < 0 from z)
      exact hx ⟨a, nI_lt_inv ha (by omega) y, rfl⟩
    · rw [if_neg y]
theorem log_g {S : Mem} {w : Nat → Int32} (h : LogR S w) : ∃ g, g ≤ 60 ∧ w 7 = nI g ∧ S 10 2 = nI g := by
  obtain ⟨q, g2, g1, g3, g4, g5, g6, g7⟩ := h
  exact ⟨g2, g3, g6, g5⟩
def cntL (P : Nat → Prop) [∀ i, Decidable (P i)] : Nat → Nat
  | 0 => 0
  | i + 1 => cntL P i + (if P i then 1 else 0)
theorem cntL_s {P : Nat → Prop} [∀ i, Decidable (P i)] {i : Nat} : cntL P (i + 1) = cntL P i + (if P i then 1 else 0) := rfl
def dwF (w : Nat → Int32) (h : Nat) : Nat → Nat → Int32
  | 0, _ => -1
  | r + 1, i => if w (183 + 5 * i + 1) = nI h then w (183 + 5 * i + 0) else dwF w h r (i + 1)
theorem led_w {w : Nat → Int32} {h g : Nat} : ∀ i, i ≤ g → (∃ m, (ledW w h g i).1 = nI m ∧ m + cntL (fun k => w (183 + 5 * k + 1) = nI h) (g - i) = cntL (fun k => w (183 + 5 * k + 1) = nI h) g) ∧ (ledW w h g i).2 = dwF w h i (g - i)
  | 0 => fun _ => ⟨⟨0, rfl, by rw [Nat.zero_add, Nat.sub_zero]⟩, rfl⟩
  | i + 1 => fun hi => by
    obtain ⟨⟨m, m1, m2⟩, i2⟩ := led_w (w := w) (h := h) (g := g) i (by omega)
    have e : g - i = g - (i + 1) + 1 := by omega
    rw [e] at m2 i2
    rw [ledW_s]
    unfold ledS
    show (∃ m, (if w (183 + 5 * (g - (i + 1)) + 1) = nI h then ((ledW w h g i).1 + nI 1, w (183 + 5 * (g - (i + 1)) + 0)) else ledW w h g i).1 = nI m ∧ _) ∧ _ = (if w (183 + 5 * (g - (i + 1)) + 1) = nI h then w (183 + 5 * (g - (i + 1)) + 0) else dwF w h i (g - (i + 1) + 1))
    rw [cntL_s] at m2
    by_cases p : w (183 + 5 * (g - (i + 1)) + 1) = nI h
    · rw [if_pos p, if_pos p]
      rw [if_pos p] at m2
      exact ⟨⟨m + 1, by show (ledW w h g i).1 + nI 1 = _; rw [m1, nI_add], by omega⟩, rfl⟩
    · rw [if_neg p, if_neg p]
      rw [if_neg p] at m2
      exact ⟨⟨m, m1, by omega⟩, i2⟩
theorem led_c {I : Mem} {w : Nat → Int32} {h g : Nat} (e : ∀ k, k < g → toldF I 1 (nI k) 1 = w (183 + 5 * k + 1)) : ∀ i, i ≤ g → ledC I h i = nI (cntL (fun k => w (183 + 5 * k + 1) = nI h) i)
  | 0 => fun _ => rfl
  | i + 1 => fun hi => by
    show (if toldF I 1 (nI i) 1 = nI h then ledC I h i + nI 1 else ledC I h i) = nI (cntL _ i + (if w (183 + 5 * i + 1) = nI h then 1 else 0))
    rw [e i (by omega), led_c e i (by omega)]
    by_cases p : w (183 + 5 * i + 1) = nI h
    · rw [if_pos p, if_pos p, nI_add]
    · rw [if_neg p, if_neg p, Nat.add_zero]
theorem led_d {I : Mem} {w : Nat → Int32} {h g : Nat} (e : ∀ k, k < g → toldF I 1 (nI k) 1 = w (183 + 5 * k + 1) ∧ toldF I 1 (nI k) 0 = w (183 + 5 * k + 0)) : ∀ r i, i + r ≤ g → ledD I h r i = dwF w h r i
  | 0 => fun _ _ => rfl
  | r + 1 => fun i hi => by
    unfold ledD dwF
    rw [(e i (by omega)).1, (e i (by omega)).2, led_d e r (i + 1) (by omega)]
theorem neg_0s (x : Int32) : nI 0 - x = -x := Int32.zero_sub x
theorem gets_eq {S : Mem} {w : Nat → Int32} {a b : Nat} {x y : Int32} (h : SimS S w) (ha : a < 6) (hb : b < 6) : getsC S a b x y = cutH w a b x y := by
  unfold getsC cutH
  rw [sim_row h (show 6 < 10 by decide), Sv_6 ha, Sv_6 hb, lack_eq h, neg_0s, (sim_0 h).2.1]
theorem rest_j : ∀ j : Fin 4, jshr (nI j.1) (nI 1) = nI (j.1 / 2) ∧ nI j.1 &&& nI 1 = nI (j.1 % 2) ∧ nI 1 - nI (j.1 / 2) = nI (1 - j.1 / 2) ∧ nI 1 - nI (j.1 % 2) = nI (1 - j.1 % 2) := by decide +kernel
theorem rest_iff {S : Mem} {w : Nat → Int32} {a b j : Nat} (h : SimS S w) (ha : a < 6) (hb : b < 6) (hj : j < 4) : restP S a b j ↔ rstP w a b (j / 2) (j % 2) := by
  obtain ⟨e1, e2, e3, e4⟩ := rest_j ⟨j, hj⟩
  dsimp only at e1 e2 e3 e4
  unfold restP
  rw [e1, e2, e3, e4, gets_eq h ha hb, gets_eq h ha hb, gets_eq h hb ha, gets_eq h hb ha]
theorem rest_eq {S : Mem} {w : Nat → Int32} {a b : Nat} (h : SimS S w) (ha : a < 6) (hb : b < 6) : restS S a b 4 = rstN w a b 2 := by
  have st : ∀ j, j < 4 → ∀ f : Int32, @ite _ (restP S a b j) (Classical.propDecidable _) (f ||| jshl (nI 1) (nI j)) f = f ||| (if rstP w a b (j / 2) (j % 2) then jshl (nI 1) (nI j) else nI 0) := fun j hj f => by
    have e := rest_iff h ha hb hj
    by_cases p : restP S a b j
    · rw [if_pos p, if_pos (e.mp p)]
    · rw [if_neg p, if_neg (fun q => p (e.mpr q)), or_n0]
  rw [show restS S a b 4 = forN (fun j f => f ||| (if rstP w a b (j / 2) (j % 2) then jshl (nI 1) (nI j) else nI 0)) (nI 0) 4 from forN_cg 4 (fun j hj f => st j hj f)]
  rfl
theorem o_log {N d : Nat} {xs : Nat → Int32} {K : Nat → Nat × Nat} {I : Mem} {L : Nat → Nat → Int64} {R : Nat → Nat → Option Nat} {n s : Nat} {x z : Int32} (h : Sim N xs K I L R n) (hn : n + 6 ≤ lmCells) (hs : s + 876 ≤ lmSlots) : Ok (d + 40) 208 [.ref 0, .int x, .int z, .ref 337] (K, I, L, R, n, s) (AftC N xs (d + 40) 366 [.ref 318, .int x, .int z] n s false) := by
  obtain ⟨hB, ⟨o, ro, H, hS⟩, hK, hTp, ⟨p, A, Ss, hP, hA, hPs⟩, h8, h13, h25⟩ := id h
  have hT := hB.1
  have h338 := hT.2.2
  have hw := hS.2.1.1
  have hH6 := hS.2.1.2.1
  have hTe := fun ci => tk_ex (ci := ci) hT hB.2.2.2.2.2
  have hwe : upr I n (fun _ => (0 : Int32)) 319 0 = nI H := by rw [upr_ne (by omega)]; exact hw
  obtain ⟨g, g1, g2, g3⟩ := log_g hS.1.2.1
  obtain ⟨q, hq6, hq⟩ := log_ok hS.1
  refine w_log (d := d + 38) (TK.k1 hT rfl) ?_
  refine c_log (d := d + 37) hT (by omega) (by omega) hq hq6 g3 g1 (fun hx => ?_) (fun e he hz => ?_)
  · exact wrq_e1 (mide hB) (m_logE (d := d + 38) (hTe 17) hx (aft_e h hn (by decide)))
  · subst hz
    refine wrq_v hT (mid0 hB) ?_
    by_cases q : InR x g
    · obtain ⟨k, hk, rfl⟩ := q
      refine m_log1 (d := d + 38) hT g2 g1 hk he ?_
      rw [told_eq hS.1.2.1 g2 g1 hk he]
      exact aft_v h
    · refine m_log0 (d := d + 38) hT g2 g1 q he ?_
      rw [told_no hS.1.2.1 g2 g1 q]
      exact aft_v h
theorem o_led0 {N d : Nat} {xs : Nat → Int32} {K : Nat → Nat × Nat} {I : Mem} {L : Nat → Nat → Int64} {R : Nat → Nat → Option Nat} {n s : Nat} {x : Int32} (h : Sim N xs K I L R n) (hn : n + 6 ≤ lmCells) (hs : s + 876 ≤ lmSlots) : Ok (d + 40) 205 [.ref 0, .int x, .int (nI 0), .ref 337] (K, I, L, R, n, s) (AftC N xs (d + 40) 364 [.ref 318, .int x, .int (nI 0)] n s false) := by
  obtain ⟨hB, ⟨o, ro, H, hS⟩, hK, hTp, ⟨p, A, Ss, hP, hA, hPs⟩, h8, h13, h25⟩ := id h
  have hT := hB.1
  have h338 := hT.2.2
  have hw := hS.2.1.1
  have hH6 := hS.2.1.2.1
  have hTe := fun ci => tk_ex (ci := ci) hT hB.2.2.2.2.2
  have hwe : upr I n (fun _ => (0 : Int32)) 319 0 = nI H := by rw [upr_ne (by omega)]; exact hw
  obtain ⟨g, g1, g2, g3⟩ := log_g hS.1.2.1
  obtain ⟨q, hq6, hq⟩ := log_ok hS.1
  refine w_led (d := d + 38) (TK.k1 hT rfl) ?_
  refine c_led0 (d := d + 37) hT (by omega) (by omega) (st_H hS) hH6 hq hq6 g3 g1 (fun hx => ?_) (fun k hk hx => ?_)
  · exact wrq_e1 (mide hB) (m_ledE (d := d + 37) (hTe 16) hwe hH6 hx (aft_e h hn (by decide)))
  · subst hx
    refine wrq_v hT (mid0 hB) (m_led0 (d := d + 37) hT hw hH6 hk g2 g1 ?_)
    have e := led_w (w := I 319) (h := k) (g := g) g (Nat.le_refl _)
    rw [Nat.sub_self] at e
    obtain ⟨⟨m, m1, m2⟩, -⟩ := e
    rw [led_c (w := I 319) (fun i hi => told_eq hS.1.2.1 g2 g1 hi (by decide)) g (Nat.le_refl _), m1, ← m2, show cntL (fun k_1 => I 319 (183 + 5 * k_1 + 1) = nI k) 0 = 0 from rfl, Nat.add_zero]
    exact aft_v h
theorem o_led1 {N d : Nat} {xs : Nat → Int32} {K : Nat → Nat × Nat} {I : Mem} {L : Nat → Nat → Int64} {R : Nat → Nat → Option Nat} {n s : Nat} {x : Int32} (h : Sim N xs K I L R n) (hn : n + 6 ≤ lmCells) (hs : s + 876 ≤ lmSlots) : Ok (d + 40) 205 [.ref 0, .int x, .int (nI 1), .ref 337] (K, I, L, R, n, s) (AftC N xs (d + 40) 364 [.ref 318, .int x, .int (nI 1)] n s false) := by
  obtain ⟨hB, ⟨o, ro, H, hS⟩, hK, hTp, ⟨p, A, Ss, hP, hA, hPs⟩, h8, h13, h25⟩ := id h
  have hT := hB.1
  have h338 := hT.2.2
  have hw := hS.2.1.1
  have hH6 := hS.2.1.2.1
  have hTe := fun ci => tk_ex (ci := ci) hT hB.2.2.2.2.2
  have hwe : upr I n (fun _ => (0 : Int32)) 319 0 = nI H := by rw [upr_ne (by omega)]; exact hw
  obtain ⟨g, g1, g2, g3⟩ := log_g hS.1.2.1
  obtain ⟨q, hq6, hq⟩ := log_ok hS.1
  refine w_led (d := d + 38) (TK.k1 hT rfl) ?_
  refine c_led1 (d := d + 37) hT (by omega) (by omega) (st_H hS) hH6 hq hq6 g3 g1 (fun hx => ?_) (fun k hk hx => ?_)
  · exact wrq_e1 (mide hB) (m_ledE (d := d + 37) (hTe 16) hwe hH6 hx (aft_e h hn (by decide)))
  · subst hx
    refine wrq_v hT (mid0 hB) (m_led1 (d := d + 37) hT hw hH6 hk g2 g1 ?_)
    have e := led_w (w := I 319) (h := k) (g := g) g (Nat.le_refl _)
    rw [Nat.sub_self] at e
    rw [led_d (w := I 319) (g := g) (fun i hi => ⟨told_eq hS.1.2.1 g2 g1 hi (by decide), told_eq hS.1.2.1 g2 g1 hi (by decide)⟩) g 0 (by omega), e.2]
    exact aft_v h
theorem o_rests {N d : Nat} {xs : Nat → Int32} {K : Nat → Nat × Nat} {I : Mem} {L : Nat → Nat → Int64} {R : Nat → Nat → Option Nat} {n s : Nat} {x z : Int32} (h : Sim N xs K I L R n) (hn : n + 6 ≤ lmCells) (hs : s + 876 ≤ lmSlots) : Ok (d + 40) 190 [.ref 0, .int x, .int z, .ref 337] (K, I, L, R, n, s) (AftC N xs (d + 40) 348 [.ref 318, .int x, .int z] n s false) := by
  obtain ⟨hB, ⟨o, ro, H, hS⟩, hK, hTp, ⟨p, A, Ss, hP, hA, hPs⟩, h8, h13, h25⟩ := id h
  have hT := hB.1
  have h338 := hT.2.2
  have hw := hS.2.1.1
  have hH6 := hS.2.1.2.1
  have hTe := fun ci => tk_ex (ci := ci) hT hB.2.2.2.2.2
  have hwe : upr I n (fun _ => (0 : Int32)) 319 0 = nI H := by rw [upr_ne (by omega)]; exact hw
  refine w_rests (d := d + 38) (TK.k1 hT rfl) ?_
  refine c_rests (d := d + 36) hT (by omega) (by omega) (st_H hS) hH6 (fun hx => ?_) (fun k g hk hg hx hz he => ?_) (fun k g hk hg hx hz he => ?_)
  · refine wrq_e1 (mide hB) ?_
    by_cases q : InR x H
    · obtain ⟨k, hk, rfl⟩ := id q
      exact m_restsE1b (d := d + 35) (hTe 16) hwe hH6 hk (fun q2 => hx ⟨q, q2⟩) (aft_e h hn (by decide))
    · exact m_restsE1a (d := d + 35) (hTe 16) hwe hH6 q (aft_e h hn (by decide))
  · subst hx hz
    obtain rfl : k = g := eq_nI he (by omega) (by omega)
    exact wrq_e2 (mide hB) (m_restsE2 (d := d + 35) (hTe 14) hwe hH6 hk (aft_e h hn (by decide)))
  · subst hx hz
    refine wrq_v hT (mid0 hB) (m_rests (d := d + 35) hT hw hH6 hk hg (fun e => he (by rw [e])) ?_)
    rw [rest_eq hS.1 (by omega) (by omega)]
    exact aft_v h
