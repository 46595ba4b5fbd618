/-! PAIRS: what is told: trunks, falls -/
theorem sim_us {N : Nat} {xs : Nat → Int32} {K : Nat → Nat × Nat} {I J M : Mem} {L L2 : Nat → Nat → Int64} {R : Nat → Nat → Option Nat} {n k : Nat} (h : Sim N xs K I L R n) (eJ : ∀ a, (1 ≤ a ∧ a < 46) ∨ 174 ≤ a → J a = I a) (e0 : ∀ j, j ≠ 7 → J 0 j = I 0 j) (e7 : J 0 7 = nI 0) (hU : UsJ k J M) (hL : ∀ a, lmB ≤ a → L2 a = L a) : Sim N xs K M L2 R n := by
  have hB := h.1
  obtain ⟨-, -, -, ⟨T, tv, t1, t2, t3, t4, t5, t6⟩, -, h8, h13, -⟩ := id h
  obtain ⟨u1, u2, u3, u4⟩ := hU
  have eM : ∀ a, (1 ≤ a ∧ a < 46) ∨ (174 ≤ a ∧ a < 318) ∨ a = 319 ∨ a = 320 ∨ a = 323 ∨ a = 324 ∨ 337 ≤ a → M a = I a := fun a ha => (u1 a (by omega)).trans (eJ a (by omega))
  have m0 : ∀ j, j ≠ 7 → M 0 j = I 0 j := fun j hj => by rw [u1 0 (by omega)]; exact e0 j hj
  have m3 : ∀ j, (j = 6 ∨ j = 7 ∨ j = 14) → M 318 j = I 318 j := fun j hj => by rw [u2 j hj, eJ 318 (by omega)]
  refine sim_fr h ⟨fun _ _ => rfl, fun a q _ _ => eM a (by unfold Imp at q; omega), ⟨m0 3 (by decide), m0 5 (by decide), m3 6 (by decide), m3 7 (by decide), by rw [eM 44 (by omega)]⟩, hL, fun _ _ _ _ => rfl⟩ (Nat.le_refl _) hB.2.2.2.2.2 ⟨0, tv, ?_, u4, by decide, fun j hj => ?_, t5, ?_⟩ ?_ (nrm_ag h13 (fun a q1 q2 => eM a (by omega)))
  · rw [u1 0 (by omega)]; exact e7
  · rw [eM 38 (by omega)]; exact t4 j hj
  · rw [eM 324 (by omega)]; exact t6
  · rw [m0 8 (by decide), m3 14 (by decide)]; exact h8
/-- the tape is used, the class throws, and so does the reference -/
theorem us_e {N : Nat} {xs : Nat → Int32} {K : Nat → Nat × Nat} {I M : Mem} {L : Nat → Nat → Int64} {R : Nat → Nat → Option Nat} {n s ci : Nat} {z : Bool} {v : Int32} (h : Sim N xs K I L R n) (hn : n + 6 ≤ lmCells) (hU : UsJ 1 (upr (up2 I 0 7 (nI 0)) n (fun _ => 0)) M) : AftR N xs n s 1 z (.inl (some (.int v))) (up1 (up1 K n (ci, 0)) n (ci, 1), M, upr L n (fun _ => 0), upr R n (fun _ => none), n + 1, s + 6) := by
  have h3 := h.1.1.2.2
  refine aft_mkE (sim_us (sim_ex (ci := ci) h (by omega)) (fun a ha => ?_) (fun j hj => ?_) ?_ hU (fun _ _ => rfl)) hU.2.2.1 (by decide) (by omega) (by omega)
  · by_cases e : a = n
    · rw [e, upr_same, upr_same]
    · rw [upr_ne e, upr_ne e, up2_row (by omega)]
  · rw [upr_ne (by omega), upr_ne (by omega), up2_same, if_neg hj]
  · rw [upr_ne (by omega), up2_hit]
theorem us_v {N : Nat} {xs : Nat → Int32} {K : Nat → Nat × Nat} {I J M : Mem} {L : Nat → Nat → Int64} {R : Nat → Nat → Option Nat} {n s : Nat} {v : Int32} (h : Sim N xs K I L R n) (eJ : ∀ a, (1 ≤ a ∧ a < 46) ∨ 174 ≤ a → J a = I a) (e0 : ∀ j, j ≠ 7 → J 0 j = I 0 j) (e7 : J 0 7 = nI 0) (hU : UsJ 0 J M) : AftR N xs n s 0 false (.inl (some (.int v))) (K, M, up2 L 337 0 v.toInt64, R, n, s) :=
  aft_mk (sim_us h eJ e0 e7 hU up_lmB) hU.2.2.1 (by omega) (by omega)
theorem wr_h {W : Nat → Int32} {x h e : Int32} : ∀ i, wrN (h + e) W x i = wrN h W x i + e
  | 0 => rfl
  | i + 1 => by
    show (if hasP x i then wrN (h + e) W x i + W i else wrN (h + e) W x i) = (if hasP x i then wrN h W x i + W i else wrN h W x i) + e
    rw [wr_h i]
    split
    · rw [Int32.add_assoc, Int32.add_comm e, ← Int32.add_assoc]
    · rfl
theorem wr_W {W : Nat → Int32} {x h e : Int32} {c : Nat} : ∀ i, wrN h (up1 W c (W c + e)) x i = wrN h W x i + (if c < i ∧ hasP x c then e else nI 0)
  | 0 => by rw [if_neg (fun q => absurd q.1 (by omega)), add_0]; rfl
  | i + 1 => by
    show (if hasP x i then wrN h (up1 W c (W c + e)) x i + up1 W c (W c + e) i else wrN h (up1 W c (W c + e)) x i) = (if hasP x i then wrN h W x i + W i else wrN h W x i) + _
    rw [wr_W i]
    by_cases q : i = c
    · subst q
      rw [up1_hit, if_neg (show ¬ (i < i ∧ hasP x i) from fun z => absurd z.1 (by omega)), add_0]
      by_cases z : hasP x i
      · rw [if_pos z, if_pos z, if_pos ⟨by omega, z⟩, Int32.add_assoc]
      · rw [if_neg z, if_neg z, if_neg (fun w => z w.2), add_0]
    · rw [up1_ne q]
      have hi : (if c < i + 1 ∧ hasP x c then e else nI 0) = (if c < i ∧ hasP x c then e else nI 0) := by
        by_cases z : c < i ∧ hasP x c
        · rw [if_pos z, if_pos ⟨by omega, z.2⟩]
        · rw [if_neg z, if_neg (fun w => z ⟨by omega, w.2⟩)]
      rw [hi]
      split
      · rw [Int32.add_assoc, Int32.add_comm _ (W i), ← Int32.add_assoc]
      · rfl
theorem wr_0 {W : Nat → Int32} {x : Int32} (h : ∀ c, c < 25 → W c = nI 0) : ∀ i, i ≤ 25 → wrN (nI 0) W x i = nI 0
  | 0 => fun _ => rfl
  | i + 1 => fun hi => by
    show (if hasP x i then wrN (nI 0) W x i + W i else wrN (nI 0) W x i) = nI 0
    rw [wr_0 h i (by omega), h i (by omega)]
    split <;> rfl
theorem tel_wr {tv : Nat → Nat} {W0 : Nat → Int32} {x : Int32} (hW : ∀ c, c < 25 → W0 c = nI 0) : ∀ r, (∀ j, j < r → tv (2 * j) < 25 ∧ tv (2 * j + 1) < 2) → wrN (telF tv W0 r).2 (telF tv W0 r).1 x 25 = nI (wrW tv x r)
  | 0 => fun _ => wr_0 hW 25 (Nat.le_refl _)
  | r + 1 => fun h => by
    obtain ⟨h1, h2⟩ := h r (by omega)
    have ih := tel_wr (x := x) hW r (fun j hj => h j (by omega))
    show wrN ((telF tv W0 r).2 + (if nI (tv (2 * r + 1)) = nI 1 then nI 1 else nI 0)) (up1 (telF tv W0 r).1 (tv (2 * r)) ((telF tv W0 r).1 (tv (2 * r)) + (if nI (tv (2 * r + 1)) = nI 1 then -1 else nI 1))) x 25 = _
    rw [wr_W, wr_h, ih, wrW_s]
    have hb : hasP x (tv (2 * r)) ↔ btI x (tv (2 * r)) = true := hasP_bt (by omega)
    have hv : tv (2 * r + 1) = 0 ∨ tv (2 * r + 1) = 1 := by omega
    rcases hv with e | e
    · rw [e, if_neg (show ¬ nI 0 = nI 1 by decide), if_neg (show ¬ nI 0 = nI 1 by decide), add_0]
      by_cases q : btI x (tv (2 * r)) = true
      · rw [if_pos ⟨h1, hb.mpr q⟩, if_pos q, if_neg (by decide), nI_add]
      · rw [if_neg (fun z => q (hb.mp z.2)), if_neg q, if_pos rfl, add_0, Nat.add_zero]
    · rw [e, if_pos rfl, if_pos rfl]
      by_cases q : btI x (tv (2 * r)) = true
      · rw [if_pos ⟨h1, hb.mpr q⟩, if_pos q, if_pos rfl, Nat.add_zero, Int32.add_assoc, show nI 1 + (-1) = nI 0 by decide, add_0]
      · rw [if_neg (fun z => q (hb.mp z.2)), if_neg q, if_neg (by decide), add_0, nI_add]
theorem wrW_le {tv : Nat → Nat} {x : Int32} : ∀ r, wrW tv x r ≤ r
  | 0 => Nat.le_refl _
  | r + 1 => by
    have h0 := wrW_le (tv := tv) (x := x) r
    have h1 : (if (if btI x (tv (2 * r)) = true then 1 else 0) = tv (2 * r + 1) then 0 else 1) ≤ 1 := by
      by_cases q : (if btI x (tv (2 * r)) = true then 1 else 0) = tv (2 * r + 1)
      · rw [if_pos q]; omega
      · rw [if_neg q]; omega
    rw [wrW_s]; omega
/-- what is wrong of a trunk, in both -/
theorem wr_eq {tv : Nat → Nat} {W0 : Nat → Int32} {T k : Nat} (hW : ∀ c, c < 25 → W0 c = nI 0) (h : trB 25 2 tv T T = true) {p : Int32} (hp : p = nI 0 ∨ p = nI 1 ∨ p = nI 2) : (wrC (telF tv W0 (T / 2)).2 (telF tv W0 (T / 2)).1 (cellC k) < p ↔ wrR tv T k < p) ∧ (wrR tv T k < p → wrC (telF tv W0 (T / 2)).2 (telF tv W0 (T / 2)).1 (cellC k) = wrR tv T k ∧ (wrR tv T k = nI 0 ∨ wrR tv T k = nI 1)) := by
  have h40 := trB_40 h
  have hr : ∀ j, j < T / 2 → tv (2 * j) < 25 ∧ tv (2 * j + 1) < 2 := fun j hj => by
    have a := trB_lt h (2 * j) (by omega)
    have b := trB_lt h (2 * j + 1) (by omega)
    rw [if_pos (by omega)] at a
    rw [if_neg (by omega)] at b
    exact ⟨a, b⟩
  have hle := wrW_le (tv := tv) (x := cellC k) (T / 2)
  unfold wrC wrR
  rw [tel_wr hW (T / 2) hr]
  obtain ⟨q, hq, rfl⟩ : ∃ q, q ≤ 2 ∧ p = nI q := by
    rcases hp with e | e | e
    · exact ⟨0, by decide, e⟩
    · exact ⟨1, by decide, e⟩
    · exact ⟨2, by decide, e⟩
  by_cases e : cellC k = nI 0
  · rw [if_pos e, if_pos e]
    have h1 : ¬ nI 2 < nI q := nI_nlt (by omega) (by omega)
    have h2 : ¬ nI 100000000 < nI q := nI_nlt (by omega) (by omega)
    exact ⟨⟨fun z => absurd z h1, fun z => absurd z h2⟩, fun z => absurd z h2⟩
  · rw [if_neg e, if_neg e]
    generalize wrW tv (cellC k) (T / 2) = m at *
    by_cases z : m < 2
    · have : jmin (nI m) (nI 2) = nI m := by unfold jmin; rw [if_neg (nI_nlt (by omega) (by omega))]
      rw [this]
      refine ⟨Iff.rfl, fun _ => ⟨rfl, ?_⟩⟩
      have : m = 0 ∨ m = 1 := by omega
      exact this.imp (fun w => by rw [w]) (fun w => by rw [w])
    · have : jmin (nI m) (nI 2) = nI 2 := by
        unfold jmin
        by_cases w : nI 2 < nI m
        · rw [if_pos w]
        · rw [if_neg w]
          have := ge_nI w (by omega)
          rw [show m = 2 by omega]
      rw [this]
      have h1 : ¬ nI 2 < nI q := nI_nlt (by omega) (by omega)
      have h2 : ¬ nI m < nI q := nI_nlt (by omega) (by omega)
      exact ⟨⟨fun w => absurd w h1, fun w => absurd w h2⟩, fun w => absurd w h2⟩
theorem trk_cnt {tv : Nat → Nat} {W0 : Nat → Int32} {T : Nat} (hW : ∀ c, c < 25 → W0 c = nI 0) (h : trB 25 2 tv T T = true) : cntC (telF tv W0 (T / 2)).2 (telF tv W0 (T / 2)).1 400 = cnP (fun k => wrR tv T k < nI 2) 400 := by
  unfold cntC cnP
  refine forN_cg 400 (fun k hk f => ?_)
  have e := (wr_eq (k := k) hW h (p := nI 2) (Or.inr (Or.inr rfl))).1
  by_cases q : wrR tv T k < nI 2
  · rw [if_pos (e.mpr q), if_pos q]
  · rw [if_neg (fun z => q (e.mp z)), if_neg q, add_0]
theorem trk_low {tv : Nat → Nat} {W0 : Nat → Int32} {T : Nat} (hW : ∀ c, c < 25 → W0 c = nI 0) (h : trB 25 2 tv T T = true) : ∀ i, (lwC (telF tv W0 (T / 2)).2 (telF tv W0 (T / 2)).1 i).1 = (lkG (wrR tv T) (nI 2) i).2 ∧ (lwC (telF tv W0 (T / 2)).2 (telF tv W0 (T / 2)).1 i).2 = (lkG (wrR tv T) (nI 2) i).1 ∧ ((lkG (wrR tv T) (nI 2) i).2 = nI 0 ∨ (lkG (wrR tv T) (nI 2) i).2 = nI 1 ∨ (lkG (wrR tv T) (nI 2) i).2 = nI 2)
  | 0 => ⟨rfl, rfl, Or.inr (Or.inr rfl)⟩
  | i + 1 => by
    obtain ⟨i1, i2, i3⟩ := trk_low hW h i
    have e := wr_eq (k := i) hW h i3
    show (lwS _ _ i (lwC _ _ i)).1 = (lkU (wrR tv T) i (lkG (wrR tv T) (nI 2) i)).2 ∧ (lwS _ _ i (lwC _ _ i)).2 = (lkU (wrR tv T) i (lkG (wrR tv T) (nI 2) i)).1 ∧ _
    show _ ∧ _ ∧ (jmin (lkG (wrR tv T) (nI 2) i).2 (wrR tv T i) = nI 0 ∨ jmin (lkG (wrR tv T) (nI 2) i).2 (wrR tv T i) = nI 1 ∨ jmin (lkG (wrR tv T) (nI 2) i).2 (wrR tv T i) = nI 2)
    unfold lwS lkU jmin
    rw [i1]
    by_cases q : wrR tv T i < (lkG (wrR tv T) (nI 2) i).2
    · obtain ⟨e1, e2⟩ := e.2 q
      rw [if_pos (e.1.mpr q), if_pos q, if_pos q, e1]
      exact ⟨rfl, rfl, e2.imp id Or.inl⟩
    · rw [if_neg (fun z => q (e.1.mp z)), if_neg q, if_neg q]
      exact ⟨i1, i2, i3⟩
theorem hd_I {x : Int32} {G : Nat → Int32} {c : Nat} : ∀ i, hdI x G i c = if c < i then G c + (jshr x (nI c) &&& nI 1) else G c
  | 0 => by rw [if_neg (by omega)]; rfl
  | i + 1 => by
    show up1 (hdI x G i) i (hdI x G i i + (jshr x (nI i) &&& nI 1)) c = _
    by_cases q : c = i
    · subst q
      rw [up1_hit, hd_I, if_neg (by omega), if_pos (by omega)]
    · rw [up1_ne q, hd_I]
      by_cases z : c < i
      · rw [if_pos z, if_pos (by omega)]
      · rw [if_neg z, if_neg (by omega)]
theorem trk_hd {tv : Nat → Nat} {W0 G0 : Nat → Int32} {T : Nat} (hW : ∀ c, c < 25 → W0 c = nI 0) (hG : ∀ c, c < 25 → G0 c = nI 0) (h : trB 25 2 tv T T = true) : ∀ i, (hdF (telF tv W0 (T / 2)).2 (telF tv W0 (T / 2)).1 G0 i).2 = cnP (fun k => wrR tv T k < nI 2) i ∧ ∀ c, c < 25 → (hdF (telF tv W0 (T / 2)).2 (telF tv W0 (T / 2)).1 G0 i).1 c = cnP (fun k => wrR tv T k < nI 2 ∧ hasP (cellC k) c) i
  | 0 => ⟨rfl, hG⟩
  | i + 1 => by
    obtain ⟨i1, i2⟩ := trk_hd hW hG h i
    have e := (wr_eq (k := i) hW h (p := nI 2) (Or.inr (Or.inr rfl))).1
    show (hdS _ _ i (hdF _ _ G0 i)).2 = cnP (fun k => wrR tv T k < nI 2) i + (if wrR tv T i < nI 2 then nI 1 else nI 0) ∧ ∀ c, c < 25 → (hdS _ _ i (hdF _ _ G0 i)).1 c = cnP (fun k => wrR tv T k < nI 2 ∧ hasP (cellC k) c) i + (if wrR tv T i < nI 2 ∧ hasP (cellC i) c then nI 1 else nI 0)
    unfold hdS
    by_cases q : wrR tv T i < nI 2
    · rw [if_pos (e.mpr q), if_pos q]
      refine ⟨by show _ + nI 1 = _; rw [i1], fun c hc => ?_⟩
      show hdI (cellC i) (hdF _ _ G0 i).1 25 c = _
      rw [hd_I, if_pos hc, i2 c hc]
      refine congrArg (fun y => cnP (fun k => wrR tv T k < nI 2 ∧ hasP (cellC k) c) i + y) (?_ : (jshr (cellC i) (nI c) &&& nI 1) = if wrR tv T i < nI 2 ∧ hasP (cellC i) c then nI 1 else nI 0)
      refine (and1_bt (by omega)).trans ?_
      by_cases z : hasP (cellC i) c
      · rw [if_pos ((hasP_bt (by omega)).mp z), if_pos ⟨q, z⟩]
      · rw [if_neg (fun w => z ((hasP_bt (by omega)).mpr w)), if_neg (fun w => z w.2)]
    · rw [if_neg (fun z => q (e.mp z)), if_neg q, add_0]
      refine ⟨i1, fun c hc => ?_⟩
      rw [if_neg (fun w => q w.1), add_0]; exact i2 c hc
theorem cnP_bd {p : Nat → Prop} [∀ k, Decidable (p k)] : ∀ i, Bd (cnP p i) i
  | 0 => ⟨0, Nat.le_refl _, rfl⟩
  | i + 1 => by
    obtain ⟨a, a1, a2⟩ := cnP_bd (p := p) i
    show Bd (cnP p i + (if p i then nI 1 else nI 0)) (i + 1)
    rw [a2]
    split
    · rw [nI_add]; exact ⟨a + 1, by omega, rfl⟩
    · rw [add_0]; exact ⟨a, by omega, rfl⟩
/-- the first least one, from whatever bound one begins -/
theorem lk_st {w : Nat → Int32} {s1 s2 : Int32} {g : Nat → Nat} (h1 : ∀ i, w i < s1) (h2 : ∀ i, w i < s2) : ∀ i, 0 < i → lkG w s1 i = lkG w s2 i
  | 0 => fun h => absurd h (by omega)
  | 1 => fun _ => by
    show lkU w 0 (-1, s1) = lkU w 0 (-1, s2)
    unfold lkU jmin
    dsimp only
    rw [if_pos (h1 0), if_pos (h2 0), if_pos (h1 0), if_pos (h2 0)]
  | i + 2 => fun _ => by
    show lkU w (i + 1) (lkG w s1 (i + 1)) = lkU w (i + 1) (lkG w s2 (i + 1))
    rw [lk_st (g := g) h1 h2 (i + 1) (by omega)]
theorem bc_lk {G : Nat → Int32} {f : Int32} : ∀ i, (bcF G f i).1 = (lkG (fun c => jmax (G c) (f - G c)) (nI 401) i).2 ∧ (bcF G f i).2 = (lkG (fun c => jmax (G c) (f - G c)) (nI 401) i).1
  | 0 => ⟨rfl, rfl⟩
  | i + 1 => by
    obtain ⟨i1, i2⟩ := bc_lk (G := G) (f := f) i
    show (bcS G f i (bcF G f i)).1 = (lkU (fun c => jmax (G c) (f - G c)) i (lkG (fun c => jmax (G c) (f - G c)) (nI 401) i)).2 ∧ (bcS G f i (bcF G f i)).2 = (lkU (fun c => jmax (G c) (f - G c)) i (lkG (fun c => jmax (G c) (f - G c)) (nI 401) i)).1
    generalize hw : (fun c => jmax (G c) (f - G c)) = w at *
    have hwi : jmax (G i) (f - G i) = w i := by rw [← hw]
    unfold bcS lkU jmin
    rw [hwi, i1]
    by_cases q : w i < (lkG w (nI 401) i).2
    · rw [if_pos q, if_pos q, if_pos q]; exact ⟨rfl, rfl⟩
    · rw [if_neg q, if_neg q, if_neg q]; exact ⟨i1, i2⟩
theorem lkG_cg {w v : Nat → Int32} {s : Int32} (i : Nat) (h : ∀ j, j < i → w j = v j) : lkG w s i = lkG v s i := by
  unfold lkG
  exact forN_cg i (fun j hj p => by unfold lkU; rw [h j hj])
theorem fil_0 {g : Nat → Int32} {c : Nat} (hc : c < 25) : fillR 25 (nI 0) g c = nI 0 := if_pos hc
theorem cnP_le {p q : Nat → Prop} [∀ k, Decidable (p k)] [∀ k, Decidable (q k)] (h : ∀ k, p k → q k) : ∀ i, ∃ a b, a ≤ b ∧ b ≤ i ∧ cnP p i = nI a ∧ cnP q i = nI b
  | 0 => ⟨0, 0, Nat.le_refl _, Nat.le_refl _, rfl, rfl⟩
  | i + 1 => by
    obtain ⟨a, b, h1, h2, h3, h4⟩ := cnP_le h i
    show ∃ x y, x ≤ y ∧ y ≤ i + 1 ∧ cnP p i + (if p i then nI 1 else nI 0) = nI x ∧ cnP q i + (if q i then nI 1 else nI 0) = nI y
    rw [h3, h4]
    by_cases z : p i
    · rw [if_pos z, if_pos (h i z), nI_add, nI_add]; exact ⟨a + 1, b + 1, by omega, by omega, rfl, rfl⟩
    · rw [if_neg z, add_0]
      by_cases w : q i
      · rw [if_pos w, nI_add]; exact ⟨a, b + 1, by omega, by omega, rfl, rfl⟩
      · rw [if_neg w, add_0]; exact ⟨a, b, h1, by omega, rfl, rfl⟩
theorem trk_bc {tv : Nat → Nat} {W0 G0 : Nat → Int32} {T : Nat} (hW : ∀ c, c < 25 → W0 c = nI 0) (hG : ∀ c, c < 25 → G0 c = nI 0) (h : trB 25 2 tv T T = true) : bcV (hdF (telF tv W0 (T / 2)).2 (telF tv W0 (T / 2)).1 G0 400).1 (hdF (telF tv W0 (T / 2)).2 (telF tv W0 (T / 2)).1 G0 400).2 = if nI 1 < (cnP (fun k => wrR tv T k < nI 2) 400) then (lkG (fun c => jmax (cnP (fun k => wrR tv T k < nI 2 ∧ hasP (cellC k) c) 400) ((cnP (fun k => wrR tv T k < nI 2) 400) - cnP (fun k => wrR tv T k < nI 2 ∧ hasP (cellC k) c) 400)) (nI 100000000) 25).1 else -1 := by
  obtain ⟨e1, e2⟩ := trk_hd hW hG h 400
  unfold bcV
  rw [e1]
  split
  · rw [(bc_lk 25).2]
    have hb : ∀ c, jmax (cnP (fun k => wrR tv T k < nI 2 ∧ hasP (cellC k) c) 400) ((cnP (fun k => wrR tv T k < nI 2) 400) - cnP (fun k => wrR tv T k < nI 2 ∧ hasP (cellC k) c) 400) < nI 401 := fun c => by
      obtain ⟨a, b, h1, h2, h3, h4⟩ := cnP_le (p := fun k => wrR tv T k < nI 2 ∧ hasP (cellC k) c) (q := fun k => wrR tv T k < nI 2) (fun k z => z.1) 400
      rw [h3, h4, nI_sub h1, nI_max (by omega) (by omega)]
      exact nI_lt (by omega) (by omega)
    rw [lkG_cg (v := fun c => jmax (cnP (fun k => wrR tv T k < nI 2 ∧ hasP (cellC k) c) 400) ((cnP (fun k => wrR tv T k < nI 2) 400) - cnP (fun k => wrR tv T k < nI 2 ∧ hasP (cellC k) c) 400)) 25 (fun c hc => by rw [e2 c hc])]
    rw [lk_st (g := fun _ => 0) (s2 := nI 100000000) hb (fun i => Int32.lt_trans (hb i) (by decide)) 25 (by decide)]
  · rfl
theorem fal_cnt {tv : Nat → Nat} {r : Nat} : fcnt tv r 2000 = cnP (fun k => fitB tv k r = true) 2000 := by
  unfold fcnt cnP
  refine forN_cg 2000 (fun k hk f => ?_)
  by_cases q : fitB tv k r = true
  · rw [if_pos q, if_pos q]
  · rw [if_neg q, if_neg q, add_0]
theorem o_trunks {N d : Nat} {xs : Nat → Int32} {K : Nat → Nat × Nat} {I : Mem} {L : Nat → Nat → Int64} {R : Nat → Nat → Option Nat} {n s : Nat} (h : Sim N xs K I L R n) (hn : n + 6 ≤ lmCells) (hs : s + 876 ≤ lmSlots) : Ok (d + 40) 150 [.ref 0, .ref 337] (K, I, L, R, n, s) (AftC N xs (d + 40) 316 [.ref 318] n s false) := by
  obtain ⟨hB, ⟨o, ro, H, hS⟩, hK, hTp, ⟨p, A, Ss, hP, hA, hPs⟩, h8, h13, h25⟩ := id h
  have hT := hB.1
  have h338 := hT.2.2
  have hw := hS.2.1.1
  have hH6 := hS.2.1.2.1
  have hTe := fun ci => tk_ex (ci := ci) hT hB.2.2.2.2.2
  have hwe : upr I n (fun _ => (0 : Int32)) 319 0 = nI H := by rw [upr_ne (by omega)]; exact hw
  obtain ⟨T, tv, t1, t2, t3, t4, t5, t6⟩ := id hTp
  have t2e : upr (up2 I 0 7 (nI 0)) n (fun _ => (0 : Int32)) 318 9 = nI T := by rw [upr_ne (by omega), up2_row (by decide)]; exact t2
  have t6e : TpW (upr (up2 I 0 7 (nI 0)) n (fun _ => (0 : Int32)) 324) tv := by rw [upr_ne (by omega), up2_row (by decide)]; exact t6
  refine w_trunks (d := d + 38) (TK.k1 hT rfl) ?_
  refine c_trunks (d := d + 36) hT (by omega) (by omega) t1 t3 t4 t5 (fun hr => ?_) (fun hr => ?_)
  · exact wrq_e1 (mide_of hB (up2_row (by decide))) (m_trunksE (d := d + 36) (hTe 14) t2e t3 t6e hr (fun M hM => us_e h hn hM))
  · generalize hJ : telM I tv T = J
    have eJ : ∀ a, (1 ≤ a ∧ a < 46) ∨ 174 ≤ a → J a = I a := fun a ha => by rw [← hJ]; unfold telM; rw [upr_ne (by omega), up2_row (by omega), up2_row (by omega)]
    have e0 : ∀ j, j ≠ 7 → J 0 j = I 0 j := fun j hj => by rw [← hJ]; unfold telM; rw [upr_ne (by omega), up2_row (by omega), up2_same, if_neg hj]
    have e7 : J 0 7 = nI 0 := by rw [← hJ]; unfold telM; rw [upr_ne (by omega), up2_row (by omega), up2_hit]
    refine wrq_v hT (mid_of hB (eJ lmScr (Or.inr (by decide)))) (m_trunks (d := d + 36) hT (by rw [eJ 318 (by omega)]; exact t2) t3 (by rw [eJ 324 (by omega)]; exact t6) hr (fun M hM => ?_))
    rw [show (telW I tv T) = telF tv (fillR 25 (nI 0) (I 67)) (T / 2) from rfl, trk_cnt (fun c hc => fil_0 hc) hr]
    exact us_v h eJ e0 e7 hM
theorem o_likely {N d : Nat} {xs : Nat → Int32} {K : Nat → Nat × Nat} {I : Mem} {L : Nat → Nat → Int64} {R : Nat → Nat → Option Nat} {n s : Nat} (h : Sim N xs K I L R n) (hn : n + 6 ≤ lmCells) (hs : s + 876 ≤ lmSlots) : Ok (d + 40) 157 [.ref 0, .ref 337] (K, I, L, R, n, s) (AftC N xs (d + 40) 321 [.ref 318] n s false) := by
  obtain ⟨hB, ⟨o, ro, H, hS⟩, hK, hTp, ⟨p, A, Ss, hP, hA, hPs⟩, h8, h13, h25⟩ := id h
  have hT := hB.1
  have h338 := hT.2.2
  have hw := hS.2.1.1
  have hH6 := hS.2.1.2.1
  have hTe := fun ci => tk_ex (ci := ci) hT hB.2.2.2.2.2
  have hwe : upr I n (fun _ => (0 : Int32)) 319 0 = nI H := by rw [upr_ne (by omega)]; exact hw
  obtain ⟨T, tv, t1, t2, t3, t4, t5, t6⟩ := id hTp
  have t2e : upr (up2 I 0 7 (nI 0)) n (fun _ => (0 : Int32)) 318 9 = nI T := by rw [upr_ne (by omega), up2_row (by decide)]; exact t2
  have t6e : TpW (upr (up2 I 0 7 (nI 0)) n (fun _ => (0 : Int32)) 324) tv := by rw [upr_ne (by omega), up2_row (by decide)]; exact t6
  refine w_likely (d := d + 38) (TK.k1 hT rfl) ?_
  refine c_likely (d := d + 36) hT (by omega) (by omega) t1 t3 t4 t5 (fun hr => ?_) (fun hr => ?_)
  · exact wrq_e1 (mide_of hB (up2_row (by decide))) (m_likelyE (d := d + 36) (hTe 14) t2e t3 t6e hr (fun M hM => us_e h hn hM))
  · generalize hJ : telM I tv T = J
    have eJ : ∀ a, (1 ≤ a ∧ a < 46) ∨ 174 ≤ a → J a = I a := fun a ha => by rw [← hJ]; unfold telM; rw [upr_ne (by omega), up2_row (by omega), up2_row (by omega)]
    have e0 : ∀ j, j ≠ 7 → J 0 j = I 0 j := fun j hj => by rw [← hJ]; unfold telM; rw [upr_ne (by omega), up2_row (by omega), up2_same, if_neg hj]
    have e7 : J 0 7 = nI 0 := by rw [← hJ]; unfold telM; rw [upr_ne (by omega), up2_row (by omega), up2_hit]
    refine wrq_v hT (mid_of hB (eJ lmScr (Or.inr (by decide)))) (m_likely (d := d + 36) hT (by rw [eJ 318 (by omega)]; exact t2) t3 (by rw [eJ 324 (by omega)]; exact t6) hr (fun M hM => ?_))
    rw [show (telW I tv T) = telF tv (fillR 25 (nI 0) (I 67)) (T / 2) from rfl, (trk_low (fun c hc => fil_0 hc) hr 400).2.1]
    exact us_v h eJ e0 e7 hM
theorem o_probe {N d : Nat} {xs : Nat → Int32} {K : Nat → Nat × Nat} {I : Mem} {L : Nat → Nat → Int64} {R : Nat → Nat → Option Nat} {n s : Nat} (h : Sim N xs K I L R n) (hn : n + 6 ≤ lmCells) (hs : s + 876 ≤ lmSlots) : Ok (d + 40) 160 [.ref 0, .ref 337] (K, I, L, R, n, s) (AftC N xs (d + 40) 322 [.ref 318] n s false) := by
  obtain ⟨hB, ⟨o, ro, H, hS⟩, hK, hTp, ⟨p, A, Ss, hP, hA, hPs⟩, h8, h13, h25⟩ := id h
  have hT := hB.1
  have h338 := hT.2.2
  have hw := hS.2.1.1
  have hH6 := hS.2.1.2.1
  have hTe := fun ci => tk_ex (ci := ci) hT hB.2.2.2.2.2
  have hwe : upr I n (fun _ => (0 : Int32)) 319 0 = nI H := by rw [upr_ne (by omega)]; exact hw
  obtain ⟨T, tv, t1, t2, t3, t4, t5, t6⟩ := id hTp
  have t2e : upr (up2 I 0 7 (nI 0)) n (fun _ => (0 : Int32)) 318 9 = nI T := by rw [upr_ne (by omega), up2_row (by decide)]; exact t2
  have t6e : TpW (upr (up2 I 0 7 (nI 0)) n (fun _ => (0 : Int32)) 324) tv := by rw [upr_ne (by omega), up2_row (by decide)]; exact t6
  refine w_probe (d := d + 38) (TK.k1 hT rfl) ?_
  refine c_probe (d := d + 36) hT (by omega) (by omega) t1 t3 t4 t5 (fun hr => ?_) (fun hr => ?_)
  · exact wrq_e1 (mide_of hB (up2_row (by decide))) (m_probeE (d := d + 36) (hTe 14) t2e t3 t6e hr (fun M hM => us_e h hn hM))
  · generalize hJ : upr (telM I tv T) 68 (hdF (telW I tv T).2 (telW I tv T).1 (fillR 25 (nI 0) (I 68)) 400).1 = J
    have eJ : ∀ a, (1 ≤ a ∧ a < 46) ∨ 174 ≤ a → J a = I a := fun a ha => by rw [← hJ]; rw [upr_ne (by omega)]; unfold telM; rw [upr_ne (by omega), up2_row (by omega), up2_row (by omega)]
    have e0 : ∀ j, j ≠ 7 → J 0 j = I 0 j := fun j hj => by rw [← hJ]; rw [upr_ne (by omega)]; unfold telM; rw [upr_ne (by omega), up2_row (by omega), up2_same, if_neg hj]
    have e7 : J 0 7 = nI 0 := by rw [← hJ]; rw [upr_ne (by omega)]; unfold telM; rw [upr_ne (by omega), up2_row (by omega), up2_hit]
    refine wrq_v hT (mid_of hB (eJ lmScr (Or.inr (by decide)))) (m_probe (d := d + 36) hT (by rw [eJ 318 (by omega)]; exact t2) t3 (by rw [eJ 324 (by omega)]; exact t6) hr (fun M hM => ?_))
    rw [show (telW I tv T) = telF tv (fillR 25 (nI 0) (I 67)) (T / 2) from rfl, trk_bc (fun c hc => fil_0 hc) (fun c hc => fil_0 hc) hr]
    exact us_v h eJ e0 e7 hM
theorem o_falls0 {N d : Nat} {xs : Nat → Int32} {K : Nat → Nat × Nat} {I : Mem} {L : Nat → Nat → Int64} {R : Nat → Nat → Option Nat} {n s : Nat} (h : Sim N xs K I L R n) (hn : n + 6 ≤ lmCells) (hs : s + 876 ≤ lmSlots) : Ok (d + 40) 163 [.ref 0, .int (nI 0), .ref 337] (K, I, L, R, n, s) (AftC N xs (d + 40) 323 [.ref 318, .int (nI 0)] n s false) := by
  obtain ⟨hB, ⟨o, ro, H, hS⟩, hK, hTp, ⟨p, A, Ss, hP, hA, hPs⟩, h8, h13, h25⟩ := id h
  have hT := hB.1
  have h338 := hT.2.2
  have hw := hS.2.1.1
  have hH6 := hS.2.1.2.1
  have hTe := fun ci => tk_ex (ci := ci) hT hB.2.2.2.2.2
  have hwe : upr I n (fun _ => (0 : Int32)) 319 0 = nI H := by rw [upr_ne (by omega)]; exact hw
  obtain ⟨T, tv, t1, t2, t3, t4, t5, t6⟩ := id hTp
  have t2e : upr (up2 I 0 7 (nI 0)) n (fun _ => (0 : Int32)) 318 9 = nI T := by rw [upr_ne (by omega), up2_row (by decide)]; exact t2
  have t6e : TpW (upr (up2 I 0 7 (nI 0)) n (fun _ => (0 : Int32)) 324) tv := by rw [upr_ne (by omega), up2_row (by decide)]; exact t6
  refine w_falls (d := d + 38) (TK.k1 hT rfl) ?_
  refine c_falls0 (d := d + 35) hT (by omega) (by omega) t1 t3 t4 t5 (fun hr => ?_) (fun hr => ?_)
  · exact wrq_e1 (mide_of hB (up2_row (by decide))) (m_fallsE (d := d + 36) (hTe 14) t2e t3 t6e hr (fun M hM => us_e h hn hM))
  · have eJ : ∀ a, (1 ≤ a ∧ a < 46) ∨ 174 ≤ a → up2 I 0 7 (nI 0) a = I a := fun a ha => up2_row (by omega)
    refine wrq_v hT (mid_of hB (eJ lmScr (Or.inr (by decide)))) (m_falls0 (d := d + 36) hT (by rw [eJ 318 (by omega)]; exact t2) t3 (by rw [eJ 324 (by omega)]; exact t6) hr (fun M hM => ?_))
    rw [fal_cnt]
    exact us_v h eJ (fun j hj => by rw [up2_same, if_neg hj]) up2_hit hM
theorem o_falls1 {N d : Nat} {xs : Nat → Int32} {K : Nat → Nat × Nat} {I : Mem} {L : Nat → Nat → Int64} {R : Nat → Nat → Option Nat} {n s : Nat} (h : Sim N xs K I L R n) (hn : n + 6 ≤ lmCells) (hs : s + 876 ≤ lmSlots) : Ok (d + 40) 163 [.ref 0, .int (nI 1), .ref 337] (K, I, L, R, n, s) (AftC N xs (d + 40) 323 [.ref 318, .int (nI 1)] n s false) := by
  obtain ⟨hB, ⟨o, ro, H, hS⟩, hK, hTp, ⟨p, A, Ss, hP, hA, hPs⟩, h8, h13, h25⟩ := id h
  have hT := hB.1
  have h338 := hT.2.2
  have hw := hS.2.1.1
  have hH6 := hS.2.1.2.1
  have hTe := fun ci => tk_ex (ci := ci) hT hB.2.2.2.2.2
  have hwe : upr I n (fun _ => (0 : Int32)) 319 0 = nI H := by rw [upr_ne (by omega)]; exact hw
  obtain ⟨T, tv, t1, t2, t3, t4, t5, t6⟩ := id hTp
  have t2e : upr (up2 I 0 7 (nI 0)) n (fun _ => (0 : Int32)) 318 9 = nI T := by rw [upr_ne (by omega), up2_row (by decide)]; exact t2
  have t6e : TpW (upr (up2 I 0 7 (nI 0)) n (fun _ => (0 : Int32)) 324) tv := by rw [upr_ne (by omega), up2_row (by decide)]; exact t6
  refine w_falls (d := d + 38) (TK.k1 hT rfl) ?_
  refine c_falls1 (d := d + 35) hT (by omega) (by omega) t1 t3 t4 t5 (fun hr => ?_) (fun hr => ?_)
  · exact wrq_e1 (mide_of hB (up2_row (by decide))) (m_fallsE (d := d + 36) (hTe 14) t2e t3 t6e hr (fun M hM => us_e h hn hM))
  · have eJ : ∀ a, (1 ≤ a ∧ a < 46) ∨ 174 ≤ a → up2 I 0 7 (nI 0) a = I a := fun a ha => up2_row (by omega)
    refine wrq_v hT (mid_of hB (eJ lmScr (Or.inr (by decide)))) (m_falls1 (d := d + 36) hT (by rw [eJ 318 (by omega)]; exact t2) t3 (by rw [eJ 324 (by omega)]; exact t6) hr (fun M hM => ?_))
    exact us_v h eJ (fun j hj => by rw [up2_same, if_neg hj]) up2_hit hM
