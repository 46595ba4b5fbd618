/-! PAIRS: the bog's text -/
theorem numR_bd {tv : Nat → Nat} {T p v z : Nat} {lo hi : Int32} (hp : p ≤ T) (h : numR tv T p lo hi = some (v, z)) : ¬ nI v < lo ∧ ¬ hi < nI v ∧ v < 10000 ∧ z ≤ T := by
  obtain ⟨h1, h2, h3⟩ := dgN_lt (tv := tv) hp
  unfold numR at h
  split at h
  · cases h
  · rename_i hn
    cases h
    exact ⟨fun q => hn (Or.inr (Or.inr (Or.inl q))), fun q => hn (Or.inr (Or.inr (Or.inr q))), h3, (skp_ge h2).2⟩
theorem numR_n {tv : Nat → Nat} {T p v z a b : Nat} (hp : p ≤ T) (hb : b < 10000) (h : numR tv T p (nI a) (nI b) = some (v, z)) (ha : a < 10000) : a ≤ v ∧ v ≤ b ∧ z ≤ T := by
  obtain ⟨h1, h2, h3, h4⟩ := numR_bd hp h
  exact ⟨ge_nI h1 (by omega), ge_nI h2 (by omega), h4⟩
def BoS (w0 : Nat → Int32) (I : Mem) (w : Nat → Int32) : Prop := SimS (vw 13 I) w ∧ (∃ H, WB w H) ∧ ∀ j, (j = 1 ∨ j = 2 ∨ 483 ≤ j) → w j = w0 j
def BoR (w0 : Nat → Int32) (r : Bool × Mem × Nat) (r2 : Bool × (Nat → Int32) × Nat) : Prop := r.1 = r2.1 ∧ r.2.2 = r2.2.2 ∧ (r.1 = true → BoS w0 r.2.1 r2.2.1)
theorem bo_f {w0 w : Nat → Int32} {I : Mem} {p : Nat} : BoR w0 (false, I, p) (false, w, p) := ⟨rfl, rfl, fun e => by cases e⟩
theorem bo_t {w0 w : Nat → Int32} {I : Mem} {p : Nat} (h : BoS w0 I w) : BoR w0 (true, I, p) (true, w, p) := ⟨rfl, rfl, fun _ => h⟩
theorem bo_put {w0 w : Nat → Int32} {I : Mem} {k j : Nat} {v : Int32} (h : BoS w0 I w) (hk : k < 10) (hj : inS k j = true) (hn : ¬ (k = 0 ∧ j = 11)) (h17 : adW k j ≠ 1) (hw : ∀ H, WB w H → ∃ H2, WB (up1 w (adW k j) v) H2) : BoS w0 (up2 I (13 + k) j v) (up1 w (adW k j) v) := by
  obtain ⟨h1, ⟨H, h2⟩, h3⟩ := h
  obtain ⟨a1, a2, -, -⟩ := adw_w hk hj
  exact ⟨sim_putv h1 hk hj hn rfl, hw H h2, fun q hq => by rw [up1_ne (by omega)]; exact h3 q hq⟩
theorem bo_row0 {tv : Nat → Nat} {T : Nat} {w0 : Nat → Int32} : ∀ f c I w p, c + f ≤ 25 → p ≤ T → BoS w0 I w → BoR w0 (rowF tv T 14 f c I p) (wlRowF tv T 0 f c w p)
  | 0 => fun c I w p _ _ _ => bo_f
  | f + 1 => fun c I w p hc hp h => by
    unfold rowF wlRowF
    generalize hx : numR tv T p (nI 0) (nI 9) = x
    cases x with
    | none => exact bo_f
    | some y =>
      obtain ⟨v, z⟩ := y
      obtain ⟨-, b2, b3⟩ := numR_n hp (by decide) hx (by decide)
      have h2 : BoS w0 (up2 I 14 c (nI v)) (up1 w (9 + 6 * c + 0) (nI v)) := bo_put (k := 1) h (by decide) (inS_25 (by decide) (by decide) (by omega)) (by omega) (show 9 + 6 * c + 0 ≠ 1 by omega) (fun H hw => ⟨H, wb_up (k := 9 + 6 * c + 0) hw (by omega) (by omega) (by omega) (by omega) (fun c2 hc2 => ⟨fun _ => ⟨v, b2, rfl⟩, fun e => absurd e (by omega), fun e => absurd e (by omega)⟩) (fun c2 hc2 e => absurd e (by omega)) (fun c2 hc2 => by omega)⟩)
      show BoR w0 (if atDg tv T z then rowF tv T 14 f (c + 1) (up2 I 14 c (nI v)) z else (true, up2 I 14 c (nI v), z)) (if atDg tv T z then wlRowF tv T 0 f (c + 1) (up1 w (9 + 6 * c + 0) (nI v)) z else (true, up1 w (9 + 6 * c + 0) (nI v), z))
      split
      · exact bo_row0 f (c + 1) _ _ z (by omega) b3 h2
      · exact bo_t h2
theorem bo_row1 {tv : Nat → Nat} {T : Nat} {w0 : Nat → Int32} : ∀ f c I w p, c + f ≤ 25 → p ≤ T → BoS w0 I w → BoR w0 (rowF tv T 15 f c I p) (wlRowF tv T 1 f c w p)
  | 0 => fun c I w p _ _ _ => bo_f
  | f + 1 => fun c I w p hc hp h => by
    unfold rowF wlRowF
    generalize hx : numR tv T p (nI 0) (nI 9) = x
    cases x with
    | none => exact bo_f
    | some y =>
      obtain ⟨v, z⟩ := y
      obtain ⟨-, b2, b3⟩ := numR_n hp (by decide) hx (by decide)
      have h2 : BoS w0 (up2 I 15 c (nI v)) (up1 w (9 + 6 * c + 1) (nI v)) := bo_put (k := 2) h (by decide) (inS_25 (by decide) (by decide) (by omega)) (by omega) (show 9 + 6 * c + 1 ≠ 1 by omega) (fun H hw => ⟨H, wb_up (k := 9 + 6 * c + 1) hw (by omega) (by omega) (by omega) (by omega) (fun c2 hc2 => ⟨fun e => absurd e (by omega), fun _ => ⟨v, b2, rfl⟩, fun e => absurd e (by omega)⟩) (fun c2 hc2 e => absurd e (by omega)) (fun c2 hc2 => by omega)⟩)
      show BoR w0 (if atDg tv T z then rowF tv T 15 f (c + 1) (up2 I 15 c (nI v)) z else (true, up2 I 15 c (nI v), z)) (if atDg tv T z then wlRowF tv T 1 f (c + 1) (up1 w (9 + 6 * c + 1) (nI v)) z else (true, up1 w (9 + 6 * c + 1) (nI v), z))
      split
      · exact bo_row1 f (c + 1) _ _ z (by omega) b3 h2
      · exact bo_t h2
theorem bo_rl0 {tv : Nat → Nat} {T p : Nat} {w0 w : Nat → Int32} {I : Mem} (hp : p ≤ T) (h : BoS w0 I w) : BoR w0 (rowL tv T 14 I p) (wlRow tv T 0 w p) := by
  unfold rowL wlRow
  generalize hx : numR tv T p (nI 0) (nI 24) = x
  cases x with
  | none => exact bo_f
  | some y =>
    obtain ⟨v, z⟩ := y
    obtain ⟨-, b2, b3⟩ := numR_n hp (by decide) hx (by decide)
    exact bo_row0 (25 - v) v I w z (by omega) b3 h
theorem bo_rl1 {tv : Nat → Nat} {T p : Nat} {w0 w : Nat → Int32} {I : Mem} (hp : p ≤ T) (h : BoS w0 I w) : BoR w0 (rowL tv T 15 I p) (wlRow tv T 1 w p) := by
  unfold rowL wlRow
  generalize hx : numR tv T p (nI 0) (nI 24) = x
  cases x with
  | none => exact bo_f
  | some y =>
    obtain ⟨v, z⟩ := y
    obtain ⟨-, b2, b3⟩ := numR_n hp (by decide) hx (by decide)
    exact bo_row1 (25 - v) v I w z (by omega) b3 h
theorem sim_drs {S : Mem} {w w2 : Nat → Int32} (h : SimS S w) (e : ∀ j, (∀ c, c < 25 → j ≠ 9 + 6 * c + 2) → w2 j = w j) (hd : DrB w2) : SimS (up2 S 0 11 (drW w2 25)) w2 := by
  obtain ⟨h1, ⟨q, g, g1, g2, g3, g4, g5, g6⟩, h3, h4⟩ := h
  refine ⟨fun k j hk hj => ?_, ⟨q, g, g1, g2, ?_, ?_, ?_, fun k f hk hf => ?_⟩, fun k j hkj => ?_, hd⟩
  · by_cases z : k = 0 ∧ j = 11
    · obtain ⟨rfl, rfl⟩ := z; rw [up2_hit]; rfl
    · obtain ⟨-, -, -, a4⟩ := adw_w hk hj
      rw [up2_off z, Sv_adw hk hj z, e _ a4, h1 k j hk hj, Sv_adw hk hj z]
  · rw [up2_row (by decide)]; exact g3
  · rw [up2_row (by decide)]; exact g4
  · rw [e 7 (fun c hc => by omega)]; exact g5
  · rw [e _ (fun c hc => by omega), up2_row (by decide)]; exact g6 k f hk hf
  · rw [up2_off (fun z => by rw [z.1, z.2] at hkj; exact absurd hkj (by decide))]; exact h3 k j hkj
theorem drn_at {w : Nat → Int32} {x : Int32} : ∀ i, i ≤ 25 → (∀ j, (∀ c, c < 25 → j ≠ 9 + 6 * c + 2) → drnW w x i j = w j) ∧ ∀ c, c < 25 → drnW w x i (9 + 6 * c + 2) = if c < i then w (9 + 6 * c + 2) ||| (jshr x (nI c) &&& nI 1) else w (9 + 6 * c + 2)
  | 0 => fun _ => ⟨fun _ _ => rfl, fun c _ => by rw [if_neg (by omega)]; rfl⟩
  | i + 1 => fun hi => by
    obtain ⟨i1, i2⟩ := drn_at (w := w) (x := x) i (by omega)
    rw [drnW_s]
    refine ⟨fun j hj => by rw [up1_ne (hj i (by omega))]; exact i1 j hj, fun c hc => ?_⟩
    by_cases q : c = i
    · subst q; rw [up1_hit, i2 c hc, if_neg (by omega), if_pos (by omega)]
    · rw [up1_ne (by omega), i2 c hc]
      by_cases z : c < i
      · rw [if_pos z, if_pos (by omega)]
      · rw [if_neg z, if_neg (by omega)]
theorem drn_01 {v b : Int32} (hv : v = nI 0 ∨ v = nI 1) (hb : b = nI 0 ∨ b = nI 1) : (v ||| b = nI 0 ∨ v ||| b = nI 1) ∧ (decide (v ||| b = nI 1) = (decide (v = nI 1) || decide (b = nI 1))) := by
  rcases hv with rfl | rfl <;> rcases hb with rfl | rfl <;> decide
theorem drn_b {w : Nat → Int32} {x : Int32} (h : DrB w) (hx : low25 x) : DrB (drnW w x 25) ∧ drW (drnW w x 25) 25 = drW w 25 ||| x := by
  obtain ⟨-, d2⟩ := drn_at (w := w) (x := x) 25 (Nat.le_refl _)
  have hb : ∀ c, c < 25 → (jshr x (nI c) &&& nI 1 = nI 0 ∨ jshr x (nI c) &&& nI 1 = nI 1) ∧ decide (jshr x (nI c) &&& nI 1 = nI 1) = btI x c := fun c hc => by
    rw [and1_bt (by omega)]
    cases btI x c <;> decide
  have hd : DrB (drnW w x 25) := fun c hc => by
    rw [d2 c hc, if_pos hc]; exact (drn_01 (h c hc) (hb c hc).1).1
  refine ⟨hd, low25_ext (dr_low hd) (low25_or (dr_low h) hx) (fun c hc => ?_)⟩
  rw [dr_bt hd hc, b_or, dr_bt h hc, d2 c hc, if_pos hc, (drn_01 (h c hc) (hb c hc).1).2, (hb c hc).2]
theorem wb_drn {w : Nat → Int32} {x : Int32} {H : Nat} (h : WB w H) : ∀ i, i ≤ 25 → WB (drnW w x i) H
  | 0 => fun _ => h
  | i + 1 => fun hi => by rw [drnW_s]; exact wb_fr (wb_drn h i (by omega)) (by omega)
theorem bo_drn {tv : Nat → Nat} {T p : Nat} {w0 w : Nat → Int32} {I : Mem} (hp : p ≤ T) (h : BoS w0 I w) : BoR w0 (drnL tv T I p) (wlDrn tv T w p) := by
  have hl := (celF_low (tv := tv) (T := T) 8 (nI 0) p (by unfold low25; decide) hp).1
  unfold drnL wlDrn
  generalize hx : (celL tv T p).1 = x
  cases x with
  | none => exact bo_f
  | some y =>
    obtain ⟨h1, ⟨H, h2⟩, h3⟩ := h
    have hy := hl y hx
    obtain ⟨e1, e2⟩ := drn_b (x := y) h1.2.2.2 hy
    obtain ⟨d1, -⟩ := drn_at (w := w) (x := y) 25 (Nat.le_refl _)
    refine bo_t ⟨?_, ⟨H, wb_drn h2 25 (Nat.le_refl _)⟩, fun j hj => by rw [d1 j (fun c hc => by omega)]; exact h3 j hj⟩
    show SimS (vw 13 (up2 I (13 + 0) 11 (I 13 11 ||| y))) _
    rw [vw_up2, show I 13 11 = drW w 25 from (sim_r0 h1).2.1, ← e2]
    exact sim_drs h1 d1 e1
theorem bo_tur {tv : Nat → Nat} {T p : Nat} {w0 w : Nat → Int32} {I : Mem} (hp : p ≤ T) (h : BoS w0 I w) : BoR w0 (turL tv T I p) (wlTur tv T w p) := by
  unfold turL wlTur
  generalize hx : numR tv T p (nI 0) (nI 24) = x
  cases x with
  | none => exact bo_f
  | some c =>
    obtain ⟨c, z⟩ := c
    obtain ⟨-, b2, b3⟩ := numR_n hp (by decide) hx (by decide)
    dsimp only
    generalize hm : numR tv T z (nI 1) (nI 99) = m
    cases m with
    | none => exact bo_f
    | some m =>
      obtain ⟨m, z1⟩ := m
      obtain ⟨m1, m2, m3⟩ := numR_n b3 (by decide) hm (by decide)
      dsimp only
      generalize optN tv T z1 kDry 99 = y
      cases y with
      | none => exact bo_f
      | some y =>
        obtain ⟨y, z2⟩ := y
        refine bo_t ?_
        have s3 : BoS w0 (up2 I 16 c (nI m)) (up1 w (9 + 6 * c + 3) (nI m)) := bo_put (k := 3) h (by decide) (inS_25 (by decide) (by decide) (by omega)) (by omega) (show 9 + 6 * c + 3 ≠ 1 by omega) (fun H hw => ⟨H, wb_up (k := 9 + 6 * c + 3) hw (by omega) (by omega) (by omega) (by omega) (fun c2 hc2 => ⟨fun e => absurd e (by omega), fun e => absurd e (by omega), fun _ => ⟨m, m2, rfl⟩⟩) (fun c2 hc2 e => absurd e (by omega)) (fun c2 hc2 => by omega)⟩)
        have s4 : BoS w0 (up2 (up2 I 16 c (nI m)) 17 c (nI y)) (up1 (up1 w (9 + 6 * c + 3) (nI m)) (9 + 6 * c + 4) (nI y)) := bo_put (k := 4) s3 (by decide) (inS_25 (by decide) (by decide) (by omega)) (by omega) (show 9 + 6 * c + 4 ≠ 1 by omega) (fun H hw => ⟨H, wb_fr (k := 9 + 6 * c + 4) hw (by omega)⟩)
        exact bo_put (k := 5) s4 (by decide) (inS_25 (by decide) (by decide) (by omega)) (by omega) (show 9 + 6 * c + 5 ≠ 1 by omega) (fun H hw => ⟨H, wb_fr (k := 9 + 6 * c + 5) hw (by omega)⟩)
theorem wb_hea {w : Nat → Int32} {H a m y : Nat} (h : WB w H) (h6 : H < 6) (h1 : 1 ≤ a) (h9 : a ≤ 9) (hy : y ≤ 999) : WB (heaW w H a m y) (H + 1) := by
  have e : ∀ j, j ≠ 0 → j ≠ 159 + 4 * H + 0 → j ≠ 159 + 4 * H + 1 → j ≠ 159 + 4 * H + 2 → j ≠ 159 + 4 * H + 3 → heaW w H a m y j = w j := fun j q0 q1 q2 q3 q4 => by
    unfold heaW; rw [up1_ne q0, up1_ne q4, up1_ne q3, up1_ne q2, up1_ne q1]
  obtain ⟨g0, g6, g5, g1, g4, gc, gs, gh⟩ := h
  refine ⟨by unfold heaW; rw [up1_hit], by omega, rnb_ag (e 5 (by omega) (by omega) (by omega) (by omega) (by omega)) g5, ?_, ?_, fun c hc => ?_, fun k hk => ⟨?_, fun q => ?_⟩, fun k hk => ?_⟩
  · rw [e 1 (by omega) (by omega) (by omega) (by omega) (by omega)]; exact g1
  · rw [e 4 (by omega) (by omega) (by omega) (by omega) (by omega)]; exact g4
  · rw [e (9 + 6 * c + 0) (by omega) (by omega) (by omega) (by omega) (by omega), e (9 + 6 * c + 1) (by omega) (by omega) (by omega) (by omega) (by omega), e (9 + 6 * c + 3) (by omega) (by omega) (by omega) (by omega) (by omega)]; exact gc c hc
  · by_cases z : k = H
    · subst z; unfold heaW; rw [up1_ne (by omega), up1_ne (by omega), up1_hit]; exact ⟨y, hy, rfl⟩
    · rw [e _ (by omega) (by omega) (by omega) (by omega) (by omega)]; exact (gs k hk).1
  · rw [e _ (by omega) (by omega) (by omega) (by omega) (by omega), e _ (by omega) (by omega) (by omega) (by omega) (by omega)]; exact (gs k hk).2 (by omega)
  · by_cases z : k = H
    · subst z; unfold heaW; rw [up1_ne (by omega), up1_ne (by omega), up1_ne (by omega), up1_ne (by omega), up1_hit]; exact ⟨a, h1, h9, rfl⟩
    · rw [e _ (by omega) (by omega) (by omega) (by omega) (by omega)]; exact gh k (by omega)
theorem mst_bd {tv : Nat → Nat} {T p v z a b : Nat} {k : List Nat} (hp : p ≤ T) (hb : b < 10000) (ha : a < 10000) (h : mstN tv T p k (nI a) b = some (v, z)) : a ≤ v ∧ v ≤ b ∧ z ≤ T := by
  unfold mstN at h
  split at h
  · exact numR_n (af_ge hp).2 hb h ha
  · cases h
theorem opt_bd {tv : Nat → Nat} {T p v z b : Nat} {k : List Nat} (hp : p ≤ T) (hb : b < 10000) (h : optN tv T p k b = some (v, z)) : v ≤ b ∧ z ≤ T := by
  unfold optN at h
  split at h
  · have := numR_n (af_ge hp).2 hb h (by decide); exact ⟨this.2.1, this.2.2⟩
  · cases h; exact ⟨Nat.zero_le _, hp⟩
theorem bo_hea {tv : Nat → Nat} {T b0 p H : Nat} {w0 w : Nat → Int32} {I : Mem} (hp : p ≤ T) (h : BoS w0 I w) (hH : w 0 = nI H) (hw : WB w H) : BoR w0 (heaL tv T I b0 p H) (wlHea tv T w b0 p H) := by
  unfold heaL wlHea
  by_cases q6 : 6 ≤ H
  · rw [if_pos q6, if_pos q6]; exact bo_f
  · rw [if_neg q6, if_neg q6]
    generalize hx : mstN tv T p kHands (nI 1) 9 = x
    cases x with
    | none => exact bo_f
    | some a =>
      obtain ⟨a, z⟩ := a
      obtain ⟨a1, a2, a3⟩ := mst_bd hp (by decide) (by decide) hx
      dsimp only
      generalize hm : mstN tv T z kNeed (nI 0) 99 = m
      cases m with
      | none => exact bo_f
      | some m =>
        obtain ⟨m, z1⟩ := m
        obtain ⟨-, -, m3⟩ := mst_bd a3 (by decide) (by decide) hm
        dsimp only
        generalize hy : optN tv T z1 kStore 999 = y
        cases y with
        | none => exact bo_f
        | some y =>
          obtain ⟨y, z2⟩ := y
          obtain ⟨y1, -⟩ := opt_bd m3 (by decide) hy
          obtain ⟨h1, -, h3⟩ := h
          have i6 : ∀ k, 6 ≤ k → k < 10 → inS k H = true := fun k q1 q2 => inS_6 q1 q2 (by omega)
          have s6 := sim_putv (b := 13) (v := nI a) h1 (k := 6) (by decide) (i6 6 (by decide) (by decide)) (by omega) rfl
          have s7 := sim_putv (b := 13) (v := nI m) s6 (k := 7) (by decide) (i6 7 (by decide) (by decide)) (by omega) rfl
          have s8 := sim_putv (b := 13) (v := nI y) s7 (k := 8) (by decide) (i6 8 (by decide) (by decide)) (by omega) rfl
          have s9 := sim_putv (b := 13) (v := nI 0) s8 (k := 9) (by decide) (i6 9 (by decide) (by decide)) (by omega) rfl
          have hz : nI 0 = up2 (up2 (up2 I (13 + 6) H (nI a)) (13 + 7) H (nI m)) (13 + 8) H (nI y) (13 + 9) H := by
            rw [up2_row (by decide), up2_row (by decide), up2_row (by decide), sim_h9 h1 (by omega)]
            exact ((hw.2.2.2.2.2.2.1 H (by omega)).2 (Nat.le_refl _)).2.symm
          rw [up_same hz] at s9
          have s0 := sim_putv (b := 13) (v := nI (H + 1)) s9 (k := 0) (j := 10) (by decide) rfl (by omega) rfl
          exact bo_t ⟨s0, ⟨H + 1, wb_hea hw (by omega) a1 a2 y1⟩, fun j hj => by unfold heaW; rw [up1_ne (by omega), up1_ne (by omega), up1_ne (by omega), up1_ne (by omega), up1_ne (by omega)]; exact h3 j hj⟩
theorem bo_rgt {tv : Nat → Nat} {T p H : Nat} {w0 w : Nat → Int32} {I : Mem} (hp : p ≤ T) (h : BoS w0 I w) (hw : WB w H) : BoR w0 (rgtL tv T I p) (wlRgt tv T w p H) := by
  have h6 := hw.2.1
  have e10 : I 13 10 = nI H := (sim_r0 h.1).1.trans hw.1
  unfold rgtL wlRgt
  rw [e10]
  generalize hx : numR tv T p (nI 0) (nI H - nI 1) = x
  cases x with
  | none => exact bo_f
  | some y =>
    obtain ⟨v, z⟩ := y
    obtain ⟨-, b2, b3, b4⟩ := numR_bd hp hx
    have hv : v < H := by
      by_cases q : H = 0
      · subst q; exact absurd (m1_lt (v := v) (by omega)) b2
      · rw [nI_sub (by omega)] at b2
        have := ge_nI b2 (by omega)
        omega
    dsimp only
    generalize (celL tv T z).1 = x
    cases x with
    | none => exact bo_f
    | some x =>
      refine bo_t ?_
      have e9 : I 22 v = w (159 + 4 * v + 3) := sim_h9 (b := 13) h.1 (by omega)
      rw [e9]
      exact bo_put (k := 9) h (by decide) (inS_6 (by decide) (by decide) (by omega)) (by omega) (show 159 + 4 * v + 3 ≠ 1 by omega) (fun H2 hw2 => ⟨H, wb_rt hw hv⟩)
theorem bo_num {tv : Nat → Nat} {T p j a up : Nat} {w0 w : Nat → Int32} {I : Mem} {b1 : Int32} (hp : p ≤ T) (hu : up < 10000) (h : BoS w0 I w) (hj : inS 0 j = true) (hn : ¬ j = 11) (ha : adW 0 j = a) (h1 : a ≠ 1) (hw : ∀ v, v ≤ up → ∀ H, WB w H → ∃ H2, WB (up1 w a (nI v)) H2) : BoR w0 (match numR tv T p (nI 0) (nI up) with
    | none => (false, I, p)
    | some x => (true, up2 I 13 j (nI x.1), x.2)) (wlNum tv T a up w p) := by
  unfold wlNum
  generalize hx : numR tv T p (nI 0) (nI up) = x
  cases x with
  | none => exact bo_f
  | some y =>
    obtain ⟨v, z⟩ := y
    obtain ⟨-, b2, b3⟩ := numR_n hp hu hx (by decide)
    subst ha
    exact bo_t (bo_put (k := 0) h (by decide) hj (fun q => hn q.2) h1 (hw v b2))
theorem bo_lin {tv : Nat → Nat} {T p H : Nat} {w0 w : Nat → Int32} {I : Mem} (hp : p ≤ T) (h : BoS w0 I w) (hw : WB w H) : BoR w0 (linL tv T I p H) (wlLin tv T w p H) := by
  have ha := (af_ge (tv := tv) hp).2
  unfold linL wlLin
  generalize hx : wd tv T p bogW = x
  cases x with
  | none => exact bo_f
  | some k =>
    have hk : k < 10 := wd_lt hx
    have hk2 : k = 0 ∨ k = 1 ∨ k = 2 ∨ k = 3 ∨ k = 4 ∨ k = 5 ∨ k = 6 ∨ k = 7 ∨ k = 8 ∨ k = 9 := by omega
    rcases hk2 with rfl | rfl | rfl | rfl | rfl | rfl | rfl | rfl | rfl | rfl
    · exact bo_rl0 ha h
    · exact bo_rl1 ha h
    · exact bo_drn ha h
    · exact bo_tur ha h
    · exact bo_hea ha h hw.1 hw
    · exact bo_rgt ha h hw
    · exact bo_num (b1 := 0) (j := 12) ha (by decide) h rfl (by decide) rfl (by decide) (fun v _ H2 hw2 => ⟨H2, wb_fr hw2 (by omega)⟩)
    · refine bo_num (b1 := 0) (j := 13) ha (by decide) h rfl (by decide) rfl (by decide) (fun v hv H2 hw2 => ⟨H2, ?_⟩)
      obtain ⟨g0, g6, g5, g1, g4, gc, gs, gh⟩ := hw2
      exact ⟨by rw [up1_ne (by decide)]; exact g0, g6, rnb_ag (up1_ne (by decide)) g5, by rw [up1_ne (by decide)]; exact g1, by rw [up1_hit]; exact ⟨v, hv, rfl⟩, fun c hc => by rw [up1_ne (by omega), up1_ne (by omega), up1_ne (by omega)]; exact gc c hc, fun k hk => by rw [up1_ne (by omega), up1_ne (by omega)]; exact gs k hk, fun k hk => by rw [up1_ne (by omega)]; exact gh k hk⟩
    · exact bo_t (bo_put (k := 0) (j := 14) h (by decide) rfl (by omega) (by decide) (fun H2 hw2 => ⟨H2, wb_up (k := 5) hw2 (by omega) (by omega) (by omega) (fun _ => Or.inr rfl) (fun c hc => ⟨fun e => absurd e (by omega), fun e => absurd e (by omega), fun e => absurd e (by omega)⟩) (fun c hc e => absurd e (by omega)) (fun c hc => by omega)⟩))
    · exact bo_num (b1 := 0) (j := 15) ha (by decide) h rfl (by decide) rfl (by decide) (fun v _ H2 hw2 => ⟨H2, wb_fr hw2 (by omega)⟩)
theorem bo_all {tv : Nat → Nat} {T : Nat} {w0 : Nat → Int32} : ∀ f I w p, p ≤ T → BoS w0 I w → BoR w0 (allL tv T f I p) (wlAll tv T f w p)
  | 0 => fun I w p _ _ => bo_f
  | f + 1 => fun I w p hp h => by
    obtain ⟨H, hw⟩ := h.2.1
    have h6 := hw.2.1
    have e10 : I 13 10 = nI H := (sim_r0 h.1).1.trans hw.1
    have hl := bo_lin (tv := tv) (H := H) hp h hw
    have hT := (linL_ok (tv := tv) (T := T) (p := p) h6 hp e10).2.1
    unfold allL wlAll
    rw [e10, hw.1, tn_nI (by omega)]
    obtain ⟨l1, l2, l3⟩ := hl
    generalize linL tv T I p H = r at *
    generalize wlLin tv T w p H = r2 at *
    obtain ⟨b, J, q⟩ := r
    obtain ⟨b2, v, q2⟩ := r2
    dsimp only at l1 l2 l3 hT ⊢
    subst l1 l2
    by_cases z : b = true
    · rw [if_pos z, if_pos z]
      by_cases y : T ≤ q
      · rw [if_pos y, if_pos y]; exact ⟨rfl, rfl, l3⟩
      · rw [if_neg y, if_neg y]
        by_cases x : tv q = 59
        · rw [if_pos x, if_pos x]
          exact bo_all f J v _ (skp_ge (by omega)).2 (l3 z)
        · rw [if_neg x, if_neg x]; exact bo_f
    · rw [if_neg z, if_neg z]; exact ⟨rfl, rfl, l3⟩
theorem bo_bog {tv : Nat → Nat} {T p : Nat} {w0 w : Nat → Int32} {I : Mem} (hp : p ≤ T) (h : BoS w0 I w) : BoR w0 (bogA tv T I p) (wlBog tv T w p) := by
  unfold bogA wlBog
  by_cases q : T ≤ p
  · rw [if_pos q, if_pos q]; exact bo_t h
  · rw [if_neg q, if_neg q]; exact bo_all 14 I w p hp h
theorem o_bog {N d : Nat} {xs : Nat → Int32} {K : Nat → Nat × Nat} {I : Mem} {L : Nat → Nat → Int64} {R : Nat → Nat → Option Nat} {n s : Nat} (h : Sim N xs K I L R n) (hn : n + 6 ≤ lmCells) (hs : s + 876 ≤ lmSlots) : Ok (d + 40) 64 [.ref 0, .ref 337] (K, I, L, R, n, s) (AftC N xs (d + 40) 219 [.ref 318] n s false) := by
  obtain ⟨hB, ⟨o, ro, H, hS⟩, hK, hTp, ⟨p, A, Ss, hP, hA, hPs⟩, h8, h13, h25⟩ := id h
  have hT := hB.1
  have h338 := hT.2.2
  have hw := hS.2.1.1
  have hH6 := hS.2.1.2.1
  have hTe := fun ci => tk_ex (ci := ci) hT hB.2.2.2.2.2
  have hwe : upr I n (fun _ => (0 : Int32)) 319 0 = nI H := by rw [upr_ne (by omega)]; exact hw
  obtain ⟨T, tv, t1, t2, t3, t4, t5, t6⟩ := id hTp
  have hb2 : 338 ≤ lmB := by decide
  have eC : ∀ k, k < 12 → cpS (B0 I T) 13 1 (13 + k) = I (1 + k) := fun k hk => by rw [cpS_in hk]; unfold B0; rw [up2_row (by omega), up2_row (by omega)]
  have hS0 : BoS (I 319) (cpS (B0 I T) 13 1) (I 319) := ⟨sim_S hS.1 (fun k hk => eC k hk), ⟨H, hS.2.1⟩, fun _ _ => rfl⟩
  have hbr : BoR (I 319) (bogR I tv T) (wlBog tv T (I 319) (skp tv T 0)) := bo_bog (skp_ge (tv := tv) (Nat.zero_le T)).2 hS0
  have hok := bogA_ok (tv := tv) (T := T) (p := skp tv T 0) (I := cpS (B0 I T) 13 1) hH6 (skp_ge (tv := tv) (Nat.zero_le T)).2 (by rw [show cpS (B0 I T) 13 1 13 = I 1 from eC 0 (by decide)]; exact st_H hS)
  have hn0 : Nrm (vw 13 (cpS (B0 I T) 13 1)) := nrm1 (S := vw 13 (cpS (B0 I T) 13 1)) hS0.1
  have hout : ∀ J, Upd (cpS (B0 I T) 13 1) J → (∀ a, (1 ≤ a ∧ a < 13) ∨ (25 ≤ a ∧ a ≠ 39) → J a = I a) ∧ (∀ j, j ≠ 7 → J 0 j = I 0 j) ∧ J 0 7 = nI 0 ∧ Nrm (vw 13 J) := fun J hU => by
    refine ⟨fun a ha => ?_, fun j hj => ?_, ?_, hU.2.1 hn0⟩
    · rw [hU.1 a (by omega), cpS_out (by omega)]; unfold B0; rw [up2_row (by omega), up2_row (by omega)]
    · rw [hU.1 0 (by omega), cpS_out (by omega)]; unfold B0; rw [up2_row (by decide), up2_same, if_neg hj]
    · rw [hU.1 0 (by omega), cpS_out (by omega)]; unfold B0; rw [up2_row (by decide), up2_hit]
  have hx14 := fun ci => sim_ex (ci := ci) h (by omega)
  have hTu : TK K (up2 R 13 18 (R 1 18)) n := TK_18 hT (by unfold isSt; omega)
  have hTeu := fun ci => tk_ex (ci := ci) hTu hB.2.2.2.2.2
  have hru : ∀ a j, ¬ (a = 13 ∧ j = 18) → upr (up2 R 13 18 (R 1 18)) n (fun _ => none) a j = upr R n (fun _ => none) a j := fun a j q => by
    by_cases z : a = n
    · rw [z, upr_same, upr_same]
    · rw [upr_ne z, upr_ne z, up2_off q]
  have hSSu : ∀ (ci : Nat) (F : Mem), (∀ a, lmB ≤ a → F a = I a) → SS (up1 (up1 K n (ci, 0)) n (ci, 1)) (upr F n (fun _ => 0)) (upr (up2 R 13 18 (R 1 18)) n (fun _ => none)) := fun ci F hF i hi => by
    have hl6 := hB.2.2.2.2.2
    have hbb : lmCells < lmB := by decide
    obtain ⟨s1, s2, s3, s4, s5⟩ := hB.2.2.1 i hi
    rw [up1_ne (by omega), up1_ne (by omega), up1_ne (by omega), up1_ne (by omega), upr_ne (by omega), up2_row (by omega), upr_ne (by omega), upr_ne (by omega), hF _ (by omega), hF _ (by omega)]
    exact ⟨s1, s2, s3, s4, s5⟩
  refine w_bog (d := d + 38) (TK.k1 hT rfl) ?_
  refine c_bog (d := d + 30) hT (by omega) (by omega) t1 t3 t4 t5 hB.2.2.1 (st_H hS) hH6 (st_r14 hS) (nrm1 hS.1) h13 (fun J q e => ?_) (fun J q e h12 => ?_) (fun J q e h12 => ?_)
  · rw [show bogA tv T (cpS (B0 I T) 13 1) (skp tv T 0) = (false, J, q) from e] at hok
    rw [e] at hbr
    obtain ⟨o1, o2, o3, o4⟩ := hout J hok.1
    obtain ⟨r1, r2, -⟩ := hbr
    have f1 : ∀ a, (1 ≤ a ∧ a < 13) ∨ (25 ≤ a ∧ a ≠ 39) → up2 (rdM J q) 0 8 (nI q) a = I a := fun a ha => by rw [up2_row (by omega), rdM_o (by omega)]; exact o1 a ha
    generalize hF : up2 (rdM J q) 0 8 (nI q) = F at *
    refine wrq_e1 (mide_of hB (f1 lmScr (Or.inr ⟨by decide, by decide⟩))) (m_bogE1 (d := d + 30) (tv := tv) (hTeu 14) ?_ t3 ?_ (hSSu 14 F (fun a ha => f1 a (by omega))) ?_ hH6 rfl ?_ (fun M hM => ?_))
    · rw [upr_ne (by omega), f1 318 (by omega)]; exact t2
    · rw [upr_ne (by omega), f1 324 (by omega)]; exact t6
    · rw [upr_ne (by omega), f1 319 (by omega)]; exact hw
    · rw [upr_ne (by omega), f1 319 (by omega)]; exact r1.symm
    · rw [upr_ne (by omega), f1 319 (by omega)] at hM
      rw [show (wlBog tv T (I 319) (skp tv T 0)).2.2 = q from r2.symm] at hM
      refine aft_mkE (sim_te (hx14 14) (fun a ha => ?_) ?_ (fun j q1 q2 => ?_) ?_ ?_ ?_ hru hM) hM.2.2.1 (by decide) (by omega) (by omega)
      · by_cases z : a = n
        · rw [z, upr_same, upr_same]
        · rw [upr_ne z, upr_ne z]; exact f1 a (by omega)
      · rw [upr_ne (by omega), upr_ne (by omega), f1 44 (by omega)]
      · rw [upr_ne (by omega), upr_ne (by omega), ← hF, up2_same, if_neg q2, rdM_o (by decide)]; exact o2 j q1
      · rw [upr_ne (by omega), ← hF, up2_same, if_neg (by decide), rdM_o (by decide)]; exact o3
      · rw [upr_ne (by omega), ← hF, up2_hit]
      · exact nrm_ag o4 (fun a q1 q2 => by rw [upr_ne (by omega), ← hF, up2_row (by omega), rdM_o (by omega)])
  · rw [show bogA tv T (cpS (B0 I T) 13 1) (skp tv T 0) = (true, J, q) from e] at hok
    rw [e] at hbr
    obtain ⟨o1, o2, o3, o4⟩ := hout J hok.1
    obtain ⟨r1, r2, r3⟩ := hbr
    obtain ⟨-, -, s3⟩ := r3 rfl
    have f1 : ∀ a, (1 ≤ a ∧ a < 13) ∨ (25 ≤ a ∧ a ≠ 39) → bogM J q a = I a := fun a ha => by unfold bogM; rw [up2_row (by omega), rdM_o (by omega)]; exact o1 a ha
    have hw12 : I 319 1 = nI 12 := by
      obtain ⟨k, k1, k2⟩ := hS.2.1.2.2.2.1
      rw [(sim_r0 hS.1).2.2.2.2.2.2.2, k2] at h12
      have := ge_nI h12 (by decide)
      rw [k2, show k = 12 by omega]
    generalize hF : bogM J q = F at *
    refine wrq_e2 (mide_of hB (f1 lmScr (Or.inr ⟨by decide, by decide⟩))) (m_bogE2 (d := d + 30) (tv := tv) (hTeu 15) ?_ t3 ?_ (hSSu 15 F (fun a ha => f1 a (by omega))) ?_ hH6 rfl ?_ ?_ (fun M hM => ?_))
    · rw [upr_ne (by omega), f1 318 (by omega)]; exact t2
    · rw [upr_ne (by omega), f1 324 (by omega)]; exact t6
    · rw [upr_ne (by omega), f1 319 (by omega)]; exact hw
    · rw [upr_ne (by omega), f1 319 (by omega)]; exact r1.symm
    · rw [upr_ne (by omega), f1 319 (by omega)]; exact (s3 1 (by omega)).trans hw12
    · refine aft_mkE (sim_te (hx14 15) (fun a ha => ?_) ?_ (fun j q1 q2 => ?_) ?_ ?_ ?_ hru hM) hM.2.2.1 (by decide) (by omega) (by omega)
      · by_cases z : a = n
        · rw [z, upr_same, upr_same]
        · rw [upr_ne z, upr_ne z]; exact f1 a (by omega)
      · rw [upr_ne (by omega), upr_ne (by omega), f1 44 (by omega)]
      · rw [upr_ne (by omega), upr_ne (by omega), ← hF]; unfold bogM; rw [up2_same, if_neg q2, rdM_o (by decide)]; exact o2 j q1
      · rw [upr_ne (by omega), ← hF]; unfold bogM; rw [up2_same, if_neg (by decide), rdM_o (by decide)]; exact o3
      · rw [upr_ne (by omega), ← hF]; unfold bogM; rw [up2_hit]
      · exact nrm_ag o4 (fun a q1 q2 => by rw [upr_ne (by omega), ← hF]; unfold bogM; rw [up2_row (by omega), rdM_o (by omega)])
  · rw [show bogA tv T (cpS (B0 I T) 13 1) (skp tv T 0) = (true, J, q) from e] at hok
    rw [e] at hbr
    obtain ⟨o1, o2, o3, o4⟩ := hout J hok.1
    obtain ⟨r1, r2, r3⟩ := hbr
    obtain ⟨s1, ⟨H2, s2⟩, s3⟩ := r3 rfl
    obtain ⟨k, k1, k2⟩ := hS.2.1.2.2.2.1
    have hk12 : k < 12 := by
      rw [(sim_r0 hS.1).2.2.2.2.2.2.2, k2] at h12
      exact nI_lt_inv (by omega) (by decide) h12
    have f1 : ∀ a, (1 ≤ a ∧ a < 25) → ∀ k, a = 13 + k → k < 12 → bogM J q a = J a := fun a ha k hk hk2 => by unfold bogM; rw [up2_row (by omega), rdM_o (by omega)]
    have fI : ∀ a, 25 ≤ a → a ≠ 39 → bogN J q a = I a := fun a ha h39 => by
      unfold bogN; rw [up2_row (by omega), up2_row (by omega), cpS_out (by omega)]; unfold bogM; rw [up2_row (by omega), rdM_o h39]; exact o1 a (by omega)
    have fC : ∀ k, k < 12 → cpS (bogM J q) 1 13 (1 + k) = J (13 + k) := fun k hk => by rw [cpS_in hk]; unfold bogM; rw [up2_row (by omega), rdM_o (by omega)]
    have f0 : ∀ j, j ≠ 5 → j ≠ 7 → j ≠ 8 → bogN J q 0 j = I 0 j := fun j q1 q2 q3 => by
      unfold bogN; rw [up2_same, if_neg q1, up2_row (by decide), cpS_out (by omega)]; unfold bogM; rw [up2_same, if_neg q3, rdM_o (by decide)]; exact o2 j q2
    have f05 : bogN J q 0 5 = nI 0 := by unfold bogN; rw [up2_hit]
    have f07 : bogN J q 0 7 = nI 0 := by unfold bogN; rw [up2_same, if_neg (by decide), up2_row (by decide), cpS_out (by omega)]; unfold bogM; rw [up2_same, if_neg (by decide), rdM_o (by decide)]; exact o3
    have f08 : bogN J q 0 8 = -1 := by unfold bogN; rw [up2_same, if_neg (by decide), up2_row (by decide), cpS_out (by omega)]; unfold bogM; rw [up2_hit]
    have f13 : ∀ a, 13 ≤ a → a < 25 → bogN J q a = J a := fun a q1 q2 => by unfold bogN; rw [up2_row (by omega), up2_row (by omega), cpS_out (by omega)]; unfold bogM; rw [up2_row (by omega), rdM_o (by omega)]
    have hv17 : cpS (bogM J q) 1 13 1 17 = (wlBog tv T (I 319) (skp tv T 0)).2.1 1 := by
      rw [show cpS (bogM J q) 1 13 1 = J 13 from fC 0 (by decide)]; exact (sim_r0 s1).2.2.2.2.2.2.2
    have hs1 : SimS (vw 1 (bogN J q)) (up1 (wlBog tv T (I 319) (skp tv T 0)).2.1 1 ((wlBog tv T (I 319) (skp tv T 0)).2.1 1 + nI 1)) := by
      have a1 : SimS (vw 1 (cpS (bogM J q) 1 13)) (wlBog tv T (I 319) (skp tv T 0)).2.1 := sim_S s1 (fun k hk => fC k hk)
      have a2 := sim_putv (b := 1) (k := 0) (j := 17) (v := cpS (bogM J q) 1 13 1 17 + nI 1) a1 (by decide) rfl (by omega) (by rw [hv17])
      exact sim_vw a2 (fun k hk => by unfold bogN; rw [up2_row (by omega)])
    have hval : bogN J q 1 17 = (wlBog tv T (I 319) (skp tv T 0)).2.1 1 + nI 1 := by unfold bogN; rw [up2_row (by decide), up2_hit, hv17]
    have hR2 : ∀ a j, ¬ (a = 13 ∧ j = 18) → up2 (up2 R 13 18 (R 1 18)) 1 18 ((up2 R 13 18 (R 1 18)) 13 18) a j = R a j := fun a j z => by
      rw [up2_hit]
      by_cases y : a = 1 ∧ j = 18
      · obtain ⟨rfl, rfl⟩ := y; rw [up2_hit]
      · rw [up2_off y, up2_off z]
    have hTb : TK K (up2 (up2 R 13 18 (R 1 18)) 1 18 ((up2 R 13 18 (R 1 18)) 13 18)) n := TK_18 hTu (by unfold isSt; omega)
    generalize hG : bogN J q = G at *
    generalize hRR : up2 (up2 R 13 18 (R 1 18)) 1 18 ((up2 R 13 18 (R 1 18)) 13 18) = RR at *
    have hSSG : SS K G RR := fun i hi => by
      obtain ⟨a1, a2, a3, a4, a5⟩ := hB.2.2.1 i hi
      rw [hR2 _ _ (by omega), fI _ (by omega) (by omega), fI _ (by omega) (by omega)]
      exact ⟨a1, a2, a3, a4, a5⟩
    refine wrq_v hTb (mid_of hB (fI lmScr (by decide) (by decide))) (m_bogY (d := d + 30) (tv := tv) hTb (by rw [fI 318 (by decide) (by decide)]; exact t2) t3 (by rw [fI 324 (by decide) (by decide)]; exact t6) hSSG (by rw [fI 319 (by decide) (by decide)]; exact hw) hH6 rfl ?_ ?_ (fun M hM => ?_))
    · rw [fI 319 (by decide) (by decide)]; exact r1.symm
    · rw [fI 319 (by decide) (by decide), s3 1 (by omega), k2]
      exact fun z => by have := eq_nI z (by omega) (by decide); omega
    · rw [fI 319 (by decide) (by decide)] at hM ⊢
      rw [hval]
      obtain ⟨l1, l2, l3, l4, l5, l6, l7⟩ := hM
      generalize hW : (wlBog tv T (I 319) (skp tv T 0)).2.1 = W at *
      have hhi : ∀ j, 483 ≤ j → up1 W 1 (W 1 + nI 1) j = I 319 j := fun j hj => by rw [up1_ne (by omega)]; exact s3 j (by omega)
      have h22 : up1 W 1 (W 1 + nI 1) 2 = I 319 2 := by rw [up1_ne (by decide)]; exact s3 2 (by omega)
      have eM : ∀ a, a ≠ 318 → a ≠ 319 → a ≠ 321 → M a = G a := l1
      have eMI : ∀ a, 25 ≤ a → a ≠ 39 → a ≠ 318 → a ≠ 319 → a ≠ 321 → M a = I a := fun a q1 q2 q3 q4 q5 => by rw [eM a q3 q4 q5]; exact fI a q1 q2
      have hIl : ∀ a, 338 ≤ a → a < n → offR none a → M a = I a := fun a q1 q2 _ => eMI a (by omega) (by omega) (by omega) (by omega) (by omega)
      have hRl : ∀ a, 338 ≤ a → a < n → RR a = R a := fun a q1 q2 => funext fun j => hR2 a j (by omega)
      obtain ⟨z1, z2, z3, z4, z5, z6, z7⟩ := id hS
      refine aft_mk ⟨⟨hTb, ⟨hB.2.1.1, fun k j hk => by rw [up_lmB _ (by omega)]; exact hB.2.1.2 k j hk⟩, fun i hi => ?_, hB.2.2.2.1, ⟨fun j => ?_, ?_⟩, hB.2.2.2.2.2⟩, ⟨o, ro, H2, ?_, ?_, ?_, z4, ?_, ?_, ?_⟩, ?_, ⟨0, tv, ?_, l5, by decide, fun j hj => ?_, t5, ?_⟩, ⟨p, 0, Ss, ⟨fun i hi => ?_, hP.2.1, by decide, ?_, fun i hi => absurd hi (by omega)⟩, l3, fun i hi => absurd hi (by omega)⟩, ?_, ?_, ?_⟩ l4 (by omega) (by omega)
      · obtain ⟨a1, a2, a3, a4, a5⟩ := hSSG i hi
        exact ⟨a1, a2, a3, fun j => by rw [eM _ (by omega) (by omega) (by omega)]; exact a4 j, fun j => by rw [eM _ (by omega) (by omega) (by omega)]; exact a5 j⟩
      · rw [eMI lmScr (by unfold lmScr; omega) (by unfold lmScr; omega) (by unfold lmScr; omega) (by unfold lmScr; omega) (by unfold lmScr; omega)]; exact hB.2.2.2.2.1.1 j
      · rw [eMI 44 (by decide) (by decide) (by decide) (by decide) (by decide)]; exact hB.2.2.2.2.1.2
      · rw [l7]; exact sim_vw hs1 (fun k hk => eM _ (by omega) (by omega) (by omega))
      · rw [l7]
        obtain ⟨g0, g6, g5, g1, g4, gc, gs, gh⟩ := s2
        exact ⟨by rw [up1_ne (by decide)]; exact g0, g6, rnb_ag (up1_ne (by decide)) g5, by rw [up1_hit, s3 1 (by omega), k2, nI_add]; exact ⟨k + 1, by omega, rfl⟩, by rw [up1_ne (by decide)]; exact g4, fun c hc => by rw [up1_ne (by omega), up1_ne (by omega), up1_ne (by omega)]; exact gc c hc, fun k hk => by rw [up1_ne (by omega), up1_ne (by omega)]; exact gs k hk, fun k hk => by rw [up1_ne (by omega)]; exact gh k hk⟩
      · exact LO_fr z3 z4 (laD_n o) (Nat.le_refl _) (fun _ _ => rfl) (hR2 1 18 (by omega)) hRl hIl
      · rw [l7]; exact lawOO_ag hhi (lawOO_fr z3 z4 (laD_n o) hIl z5)
      · rw [l7]; exact RO_ag h22 hhi z6
      · rw [l7]; exact amb_ag hhi z7
      · rcases hK with ⟨q1, q2⟩ | ⟨q1, q2, ok, rk, Hk, q3, q4⟩
        · exact Or.inl ⟨by rw [eM 0 (by decide) (by decide) (by decide), f0 3 (by decide) (by decide) (by decide)]; exact q1, by rw [l2, fI 318 (by decide) (by decide)]; exact q2⟩
        · refine Or.inr ⟨by rw [eM 0 (by decide) (by decide) (by decide), f0 3 (by decide) (by decide) (by decide)]; exact q1, by rw [l2, fI 318 (by decide) (by decide)]; exact q2, ok, rk, Hk, ?_, ?_⟩
          · rw [eMI 320 (by decide) (by decide) (by decide) (by decide) (by decide)]
            exact st_fr q3 (laD_n ok) (Nat.le_refl _) (fun _ _ => rfl) (hR2 25 18 (by omega)) hRl hIl (fun k hk => eMI _ (by omega) (by omega) (by omega) (by omega) (by omega))
          · rw [hR2 1 18 (by omega)]; exact q4
      · rw [eM 0 (by decide) (by decide) (by decide)]; exact f07
      · rw [eMI 38 (by decide) (by decide) (by decide) (by decide) (by decide)]; exact t4 j hj
      · rw [eMI 324 (by decide) (by decide) (by decide) (by decide) (by decide)]; exact t6
      · obtain ⟨a1, a2, a3⟩ := hP.1 i hi
        exact ⟨by rw [hR2 37 i (by omega)]; exact a1, a2, Nrm_eq a3 (fun k hk => eMI _ (by omega) (by omega) (by omega) (by omega) (by omega))⟩
      · rw [eM 0 (by decide) (by decide) (by decide)]; exact f05
      · rw [eM 0 (by decide) (by decide) (by decide), f08, l6]
      · exact nrm_ag o4 (fun a q1 q2 => by rw [eM a (by omega) (by omega) (by omega)]; exact f13 a q1 q2)
      · exact nrm_ag h25 (fun a q1 q2 => eMI a (by omega) (by omega) (by omega) (by omega) (by omega))
