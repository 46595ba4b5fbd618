/-! PAIRS: hags, bridges; what is fed -/
/-- what is left is closed in what there was -/
def ClB (a x : Int32) : Prop := low25 x ∧ (∀ j, j < 25 → btI x j = true → btI a j = true) ∧ ∀ j c, j < 25 → c < 25 → btI a j = true → btI x c = true → btI (besB c) j = true → btI x j = true
theorem more_in {a x y : Int32} (h : ClB a x) (hy : low25 y) (hs : ∀ j, j < 25 → btI y j = true → btI x j = true) : moreC x y = moreC a y ∧ ∀ j, j < 25 → btI (moreC a y) j = true → btI x j = true := by
  obtain ⟨h1, h2, h3⟩ := h
  constructor
  · refine low25_ext (low25_more hy) (low25_more hy) (fun j hj => bool_eq ?_)
    rw [more_iff hy hj, more_iff hy hj]
    constructor
    · rintro (e | ⟨e, q⟩)
      · exact Or.inl e
      · exact Or.inr ⟨h2 j hj e, q⟩
    · rintro (e | ⟨e, c, c1, c2, c3⟩)
      · exact Or.inl e
      · exact Or.inr ⟨h3 j c hj c1 e (hs c c1 c2) c3, c, c1, c2, c3⟩
  · intro j hj e
    rcases (more_iff hy hj).mp e with q | ⟨q, c, c1, c2, c3⟩
    · exact hs j hj q
    · exact h3 j c hj c1 q (hs c c1 c2) c3
theorem it_in {a x y : Int32} (h : ClB a x) (hy : low25 y) (hs : ∀ j, j < 25 → btI y j = true → btI x j = true) : ∀ i, itC x y i = itC a y i ∧ ∀ j, j < 25 → btI (itC a y i) j = true → btI x j = true
  | 0 => ⟨rfl, hs⟩
  | i + 1 => by
    obtain ⟨i1, i2⟩ := it_in h hy hs i
    rw [itC_s, itC_s, i1]
    exact more_in h (low25_it hy i) i2
theorem lowb_eq {x : Int32} (hx : low25 x) (h0 : ¬ x = nI 0) : x &&& -x = jshl (nI 1) (nI (lo1 x)) := by
  obtain ⟨a1, a2, a3⟩ := lo1_spec hx h0
  refine b_ext (fun i hi => ?_)
  rw [b_and, bt_neg x hi, low_ex a2 a3, bt_s1 _ (by omega) i hi]
  rcases Nat.lt_trichotomy i (lo1 x) with h | h | h
  · rw [a3 i h, decide_eq_false (show ¬ i = lo1 x by omega)]; rfl
  · rw [h, a2, decide_eq_false (show ¬ lo1 x < lo1 x by omega), decide_eq_true (show lo1 x = lo1 x from rfl)]; rfl
  · rw [decide_eq_true h, decide_eq_false (show ¬ i = lo1 x by omega)]
    cases btI x i <;> rfl
theorem clb_cut {a x s : Int32} (ha : low25 a) (h : ClB a x) (hs : low25 s) (hf : moreC a s = s) : ClB a (x &&& (s ^^^ (-1))) := by
  obtain ⟨h1, h2, h3⟩ := h
  have bt : ∀ j, j < 25 → (btI (x &&& (s ^^^ (-1))) j = true ↔ btI x j = true ∧ ¬ btI s j = true) := fun j hj => by
    rw [b_and, bt_nt (by omega)]
    cases btI x j <;> cases btI s j <;> simp
  refine ⟨low25_and h1, fun j hj e => h2 j hj ((bt j hj).mp e).1, fun j c hj hc e1 e2 e3 => ?_⟩
  obtain ⟨c1, c2⟩ := (bt c hc).mp e2
  refine (bt j hj).mpr ⟨h3 j c hj hc e1 c1 e3, fun q => c2 ?_⟩
  have := (more_iff (a := a) hs hc).mpr (Or.inr ⟨h2 c hc c1, j, hj, q, by rw [bes_sym j hj c hc]; exact e3⟩)
  rw [hf] at this; exact this
theorem pcs_st {a x : Int32} (ha : low25 a) (h : ClB a x) (h0 : ¬ x = nI 0) : spreadC (x &&& -x) x = pieC (lo1 x) a ∧ ClB a (x &&& (pieC (lo1 x) a ^^^ (-1))) := by
  obtain ⟨a1, a2, a3⟩ := lo1_spec h.1 h0
  have hb : jshl (nI 1) (nI (lo1 x)) &&& a = jshl (nI 1) (nI (lo1 x)) := by
    refine b_ext (fun i hi => ?_)
    rw [b_and, bt_s1 _ (by omega) i hi]
    by_cases q : i = lo1 x
    · rw [q, h.2.1 _ a1 a2, Bool.and_true]
    · rw [decide_eq_false q, Bool.false_and]
  have hl := low25_s1 a1
  have hp : pieC (lo1 x) a = itC a (jshl (nI 1) (nI (lo1 x))) 25 := by unfold pieC; rw [hb, pieN_it hl]
  have hs : ∀ j, j < 25 → btI (jshl (nI 1) (nI (lo1 x))) j = true → btI x j = true := fun j hj e => by
    rw [bt_s1 _ (by omega) j (by omega), decide_eq_true_iff] at e
    rw [e]; exact a2
  rw [hp]
  refine ⟨?_, clb_cut ha h (low25_it hl 25) (it_fix hl)⟩
  rw [lowb_eq h.1 h0, spread_it]
  exact (it_in h hl hs 25).1
theorem pcs_eq {a : Int32} (ha : low25 a) : ∀ i, piecesF a i = rpF a i ∧ ClB a (rpF a i).1
  | 0 => ⟨rfl, ha, fun _ _ e => e, fun j c _ _ e _ _ => e⟩
  | i + 1 => by
    obtain ⟨i1, i2⟩ := pcs_eq ha i
    rw [rpF_s, show piecesF a (i + 1) = piecesS (piecesF a i) from rfl, i1]
    unfold piecesS rpS
    by_cases z : (rpF a i).1 = nI 0
    · rw [if_pos z, if_pos z]; exact ⟨rfl, i2⟩
    · obtain ⟨p1, p2⟩ := pcs_st ha i2 z
      rw [if_neg z, if_neg z, p1]
      exact ⟨rfl, p2⟩
theorem pieces_eq {a : Int32} (ha : low25 a) : piecesC a = rpC a := by
  unfold piecesC rpC; rw [(pcs_eq ha 25).1]
theorem and_hp {p : Int32} {c : Nat} (hc : c < 25) : ¬ p &&& jshl (nI 1) (nI c) = nI 0 ↔ hasP p c := by
  rw [hasP_bt (by omega)]
  constructor
  · intro e
    cases q : btI p c
    · refine absurd (b_ext (fun i hi => ?_)) e
      rw [b_and, bt_s1 c (by omega) i hi, bt_n0]
      by_cases z : i = c
      · rw [z, q, Bool.false_and]
      · rw [decide_eq_false z, Bool.and_false]
    · rfl
  · intro q e
    have := b_and p (jshl (nI 1) (nI c)) c
    rw [e, bt_n0, q, bt_s1 c (by omega) c (by omega), decide_eq_true rfl] at this
    cases this
theorem brid_eq {p : Int32} (hp : low25 p) : bridC p = brR p 25 := by
  unfold bridC brR
  refine forN_cg 25 (fun c hc f => ?_)
  rw [pieces_eq hp, pieces_eq (low25_and hp)]
  by_cases q : hasP p c
  · rw [if_pos ((and_hp hc).mpr q)]
    by_cases z : rpC p < rpC (p &&& (jshl (nI 1) (nI c) ^^^ (-1)))
    · rw [if_pos z, if_pos ⟨q, z⟩]
    · rw [if_neg z, if_neg (fun w => z w.2), or_n0]
  · rw [if_neg (fun w => q ((and_hp hc).mp w)), if_neg (fun w => q w.1), or_n0]
theorem o_hags {N d : Nat} {xs : Nat → Int32} {K : Nat → Nat × Nat} {I : Mem} {L : Nat → Nat → Int64} {R : Nat → Nat → Option Nat} {n s : Nat} (h : Sim N xs K I L R n) : Ok (d + 40) 46 [.ref 0] (K, I, L, R, n, s) (DirC N xs (d + 40) 338 [.ref 318] n s) := by
  obtain ⟨hB, ⟨o, ro, H, hS⟩, hK, hTp, ⟨p, A, Ss, hP, hA, hPs⟩, h8, h13, h25⟩ := id h
  have hT := hB.1
  have h338 := hT.2.2
  have hw := hS.2.1.1
  have hH6 := hS.2.1.2.1
  refine c_hags (d := d + 36) hT ⟨_, rfl, m_hags (d := d + 35) hT ?_, mid0 hB⟩
  rw [pieces_eq low_peat, peat_eq hS.1]
  exact dir_v h
theorem o_bridges {N d : Nat} {xs : Nat → Int32} {K : Nat → Nat × Nat} {I : Mem} {L : Nat → Nat → Int64} {R : Nat → Nat → Option Nat} {n s : Nat} (h : Sim N xs K I L R n) : Ok (d + 40) 49 [.ref 0] (K, I, L, R, n, s) (DirC N xs (d + 40) 342 [.ref 318] n s) := by
  obtain ⟨hB, ⟨o, ro, H, hS⟩, hK, hTp, ⟨p, A, Ss, hP, hA, hPs⟩, h8, h13, h25⟩ := id h
  have hT := hB.1
  have h338 := hT.2.2
  have hw := hS.2.1.1
  have hH6 := hS.2.1.2.1
  refine c_bridges (d := d + 36) hT ⟨_, rfl, m_bridges (d := d + 35) hT ?_, mid0 hB⟩
  rw [brid_eq low_peat, peat_eq hS.1]
  exact dir_v h
/-! a byte -/
def byN (y : Int32) : Nat := y.toBitVec.toNat % 256
theorem by_255 (y : Int32) : y &&& nI 255 = nI (byN y) := by
  refine b_ext (fun i hi => ?_)
  rw [b_and]
  have h1 : ∀ i : Fin 32, btI (nI 255) i.1 = decide (i.1 < 8) := by decide +kernel
  rw [h1 ⟨i, hi⟩]
  unfold byN
  have h2 : btI (nI (y.toBitVec.toNat % 256)) i = (y.toBitVec.toNat % 256).testBit i := by
    unfold btI
    show (BitVec.ofNat 32 (y.toBitVec.toNat % 256)).getLsbD i = _
    rw [BitVec.getLsbD_ofNat, decide_eq_true hi, Bool.true_and]
  rw [h2, show (256 : Nat) = 2 ^ 8 from rfl, Nat.testBit_mod_two_pow]
  show (y.toBitVec.getLsbD i && decide (i < 8)) = _
  rw [Bool.and_comm]; rfl
theorem by_i8 (y : Int32) : y.toInt8.toInt32.toInt8.toInt32 = sbI (byN y) := by
  have h1 : ∀ k : Fin 256, (Int8.ofNat k.1).toInt32.toInt8.toInt32 = sbI k.1 := by decide +kernel
  have h2 : y.toInt8 = Int8.ofNat (byN y) := by
    apply Int8.toBitVec_inj.mp
    rw [Int32.toBitVec_toInt8]
    refine BitVec.eq_of_getLsbD_eq (fun i hi => ?_)
    show _ = (BitVec.ofNat 8 (byN y)).getLsbD i
    rw [BitVec.getLsbD_signExtend, BitVec.getLsbD_ofNat, decide_eq_true hi, Bool.true_and, Bool.true_and, if_pos (by omega)]
    unfold byN
    rw [show (256 : Nat) = 2 ^ 8 from rfl, Nat.testBit_mod_two_pow, decide_eq_true hi, Bool.true_and]
    rfl
  rw [h2]
  exact h1 ⟨byN y, Nat.mod_lt _ (by decide)⟩
theorem by_us {x : Int32} {k : Nat} (hk : k ≤ 24) : jushr x (nI k) &&& nI 255 = nI (byN (jshr x (nI k))) := by
  rw [← by_255]
  refine b_ext (fun i hi => ?_)
  rw [b_and, b_and, bt_jshr x (by omega) hi]
  have e : btI (jushr x (nI k)) i = btI x (k + i) := b_ushr k (by omega) x i
  have h1 : ∀ i : Fin 32, btI (nI 255) i.1 = decide (i.1 < 8) := by decide +kernel
  rw [e, h1 ⟨i, hi⟩]
  by_cases q : i < 8
  · rw [if_pos (by omega)]
  · rw [decide_eq_false q, Bool.and_false, Bool.and_false]
theorem put_38 {I : Mem} {T j : Nat} {x : Int32} : putM I T x 38 j = if T ≤ j ∧ j < T + 4 then nI (byN (jshr x (nI (24 - 8 * (j - T))))) else I 38 j := by
  have hd : putM I T x 38 j = if j = T + 3 then jushr x (nI 0) &&& nI 255 else if j = T + 2 then jushr x (nI 8) &&& nI 255 else if j = T + 1 then jushr x (nI 16) &&& nI 255 else if j = T then jushr x (nI 24) &&& nI 255 else I 38 j := by
    unfold putM
    rw [up2_row (show (38 : Nat) ≠ 0 by decide), up2_same, up2_row (show (38 : Nat) ≠ 0 by decide), up2_same, up2_row (show (38 : Nat) ≠ 0 by decide), up2_same, up2_row (show (38 : Nat) ≠ 0 by decide), up2_same]
  rw [hd]
  by_cases q : T ≤ j ∧ j < T + 4
  · rw [if_pos q]
    have hc : j = T ∨ j = T + 1 ∨ j = T + 2 ∨ j = T + 3 := by omega
    rcases hc with rfl | rfl | rfl | rfl
    · rw [if_neg (by omega), if_neg (by omega), if_neg (by omega), if_pos rfl, by_us (by decide), show j - j = 0 by omega]
    · rw [if_neg (by omega), if_neg (by omega), if_pos rfl, by_us (by decide), show T + 1 - T = 1 by omega]
    · rw [if_neg (by omega), if_pos rfl, by_us (by decide), show T + 2 - T = 2 by omega]
    · rw [if_pos rfl, by_us (by decide), show T + 3 - T = 3 by omega]
  · rw [if_neg q, if_neg (by omega), if_neg (by omega), if_neg (by omega), if_neg (by omega)]
theorem put_o {I : Mem} {T a : Nat} {x : Int32} (h1 : a ≠ 0) (h2 : a ≠ 38) : putM I T x a = I a := by
  unfold putM
  rw [up2_row h1, up2_row h2, up2_row h1, up2_row h2, up2_row h1, up2_row h2, up2_row h1, up2_row h2]
theorem put_0 {I : Mem} {T j : Nat} {x : Int32} (h : j ≠ 7) : putM I T x 0 j = I 0 j := by
  unfold putM
  rw [up2_same, if_neg h, up2_row (by decide), up2_same, if_neg h, up2_row (by decide), up2_same, if_neg h, up2_row (by decide), up2_same, if_neg h, up2_row (by decide)]
def fedN (f : Nat → Int32) (k : Nat) : Nat := byN (jshr (f (k / 4)) (nI (24 - 8 * (k % 4))))
theorem fed_38 {I : Mem} {T j : Nat} {v : Nat → Int32} {a b c e f : Int32} : feedM I T a b c e f 38 j = if T ≤ j ∧ j < T + 20 then nI (fedN (fivR v a b c e f) (j - T)) else I 38 j := by
  have f0 : fivR v a b c e f 0 = a := by unfold fivR; rw [up1_ne (by decide), up1_ne (by decide), up1_ne (by decide), up1_ne (by decide), up1_hit]
  have f1 : fivR v a b c e f 1 = b := by unfold fivR; rw [up1_ne (by decide), up1_ne (by decide), up1_ne (by decide), up1_hit]
  have f2 : fivR v a b c e f 2 = c := by unfold fivR; rw [up1_ne (by decide), up1_ne (by decide), up1_hit]
  have f3 : fivR v a b c e f 3 = e := by unfold fivR; rw [up1_ne (by decide), up1_hit]
  have f4 : fivR v a b c e f 4 = f := by unfold fivR; rw [up1_hit]
  unfold feedM fedN
  rw [put_38, put_38, put_38, put_38, put_38]
  by_cases q : T ≤ j ∧ j < T + 20
  · rw [if_pos q]
    by_cases q4 : T + 16 ≤ j
    · rw [if_pos (by omega), show (j - T) / 4 = 4 by omega, f4, show (j - T) % 4 = j - (T + 16) by omega]
    · rw [if_neg (by omega)]
      by_cases q3 : T + 12 ≤ j
      · rw [if_pos (by omega), show (j - T) / 4 = 3 by omega, f3, show (j - T) % 4 = j - (T + 12) by omega]
      · rw [if_neg (by omega)]
        by_cases q2 : T + 8 ≤ j
        · rw [if_pos (by omega), show (j - T) / 4 = 2 by omega, f2, show (j - T) % 4 = j - (T + 8) by omega]
        · rw [if_neg (by omega)]
          by_cases q1 : T + 4 ≤ j
          · rw [if_pos (by omega), show (j - T) / 4 = 1 by omega, f1, show (j - T) % 4 = j - (T + 4) by omega]
          · rw [if_neg (by omega), if_pos (by omega), show (j - T) / 4 = 0 by omega, f0, show (j - T) % 4 = j - T by omega]
  · rw [if_neg q, if_neg (by omega), if_neg (by omega), if_neg (by omega), if_neg (by omega), if_neg (by omega)]
theorem fed_o {I : Mem} {T q : Nat} {a b c e f : Int32} (h1 : q ≠ 0) (h2 : q ≠ 38) : feedM I T a b c e f q = I q := by
  unfold feedM; rw [put_o h1 h2, put_o h1 h2, put_o h1 h2, put_o h1 h2, put_o h1 h2]
theorem fed_0 {I : Mem} {T j : Nat} {a b c e f : Int32} (h : j ≠ 7) : feedM I T a b c e f 0 j = I 0 j := by
  unfold feedM; rw [put_0 h, put_0 h, put_0 h, put_0 h, put_0 h]
theorem o_feed {N d : Nat} {xs : Nat → Int32} {K : Nat → Nat × Nat} {I : Mem} {L : Nat → Nat → Int64} {R : Nat → Nat → Option Nat} {n s : Nat} {va vb vc vd ve : Int32} (h : Sim N xs K I L R n) : Ok (d + 40) 11 [.ref 0, .int va, .int vb, .int vc, .int vd, .int ve] (K, I, L, R, n, s) (DirC N xs (d + 40) 216 [.ref 318, .int va, .int vb, .int vc, .int vd, .int ve] n s) := by
  obtain ⟨hB, ⟨o, ro, H, hS⟩, hK, hTp, ⟨p, A, Ss, hP, hA, hPs⟩, h8, h13, h25⟩ := id h
  have hT := hB.1
  have h338 := hT.2.2
  have hw := hS.2.1.1
  have hH6 := hS.2.1.2.1
  obtain ⟨T, tv, t1, t2, t3, t4, t5, t6⟩ := id hTp
  refine c_feed (d := d + 38) hT t1 t3 (fun hx => ⟨_, rfl, ?_, mid0 hB⟩) (fun hx => ⟨_, rfl, ?_, midT hB (fed_o (by decide) (by decide))⟩)
  · exact m_feed0 (d := d + 39) hT t2 hx t3 (dir_v h)
  · refine m_feed (d := d + 39) hT (by rw [fed_o (by decide) (by decide)]; exact t2) hx (fun N2 hN2 => ?_)
    generalize hF : feedM I T va vb vc vd ve = F at *
    have eF : ∀ q, q ≠ 0 → q ≠ 38 → F q = I q := fun q r1 r2 => by rw [← hF]; exact fed_o r1 r2
    generalize hM : up2 (upr N2 324 (cpyO T 20 (fedB (N2 325)) (N2 324))) 318 9 (nI (T + 20)) = M
    have eN : ∀ q, q ≠ 318 → q ≠ 325 → N2 q = F q := fun q r1 r2 => by rw [hN2, upr_ne r2, up2_row r1]
    have e325 : N2 325 = fivR (F 325) va vb vc vd ve := by rw [hN2, upr_same, up2_row (by decide)]
    have eM : ∀ q, q ≠ 318 → q ≠ 324 → q ≠ 325 → M q = F q := fun q r1 r2 r3 => by rw [← hM, up2_row r1, upr_ne r2, eN q r1 r3]
    have e0 : ∀ j, j ≠ 7 → M 0 j = I 0 j := fun j hj => by rw [eM 0 (by decide) (by decide) (by decide), ← hF]; exact fed_0 hj
    have e3 : ∀ j, j ≠ 0 → j ≠ 9 → M 318 j = I 318 j := fun j r1 r2 => by rw [← hM, up2_same, if_neg r2, upr_ne (by decide), hN2, upr_ne (by decide), up2_same, if_neg r1, eF 318 (by decide) (by decide)]
    have eI : ∀ q, q ≠ 0 → q ≠ 38 → q ≠ 318 → q ≠ 324 → q ≠ 325 → M q = I q := fun q r1 r2 r3 r4 r5 => by rw [eM q r3 r4 r5, eF q r1 r2]
    have htk : ∀ j, T ≤ j ∧ j < T + 20 → (fun j => if T ≤ j ∧ j < T + 20 then fedN (fivR (F 325) va vb vc vd ve) (j - T) else tv j) j = fedN (fivR (F 325) va vb vc vd ve) (j - T) := fun j hj => if_pos hj
    have htn : ∀ j, ¬ (T ≤ j ∧ j < T + 20) → (fun j => if T ≤ j ∧ j < T + 20 then fedN (fivR (F 325) va vb vc vd ve) (j - T) else tv j) j = tv j := fun j hj => if_neg hj
    have hfl : ∀ k, fedN (fivR (F 325) va vb vc vd ve) k < 256 := fun k => Nat.mod_lt _ (by decide)
    refine dir_mk (sim_fr h (fr_I (fun q r1 _ => eI q (by unfold Imp at r1; omega) (by unfold Imp at r1; omega) (by unfold Imp at r1; omega) (by unfold Imp at r1; omega) (by unfold Imp at r1; omega)) (e0 3 (by decide)) (e0 5 (by decide)) (e3 6 (by decide) (by decide)) (e3 7 (by decide) (by decide)) (by rw [eI 44 (by decide) (by decide) (by decide) (by decide) (by decide)])) (Nat.le_refl _) hB.2.2.2.2.2 ⟨T + 20, fun j => if T ≤ j ∧ j < T + 20 then fedN (fivR (F 325) va vb vc vd ve) (j - T) else tv j, ?_, ?_, hx, fun j hj => ?_, fun j hj => ?_, fun j hj => ⟨?_, ?_⟩⟩ ?_ ?_) (by omega) (by omega)
    · rw [eM 0 (by decide) (by decide) (by decide), ← hF]; exact putM_7
    · rw [← hM, up2_hit]
    · have e38 : ∀ v, F 38 j = if T ≤ j ∧ j < T + 20 then nI (fedN (fivR v va vb vc vd ve) (j - T)) else I 38 j := fun v => by rw [← hF]; exact fed_38
      rw [eM 38 (by decide) (by decide) (by decide), e38 (F 325)]
      by_cases z : T ≤ j ∧ j < T + 20
      · rw [if_pos z, htk j z]
      · rw [if_neg z, htn j z]; exact t4 j hj
    · by_cases z : T ≤ j ∧ j < T + 20
      · rw [htk j z]; exact hfl _
      · rw [htn j z]; exact t5 j hj
    · have em : M 324 = cpyO T 20 (fedB (N2 325)) (N2 324) := by rw [← hM, up2_row (by decide), upr_same]
      rw [em, e325, eN 324 (by decide) (by decide), eF 324 (by decide) (by decide)]
      unfold cpyO
      by_cases z : T ≤ j ∧ j < T + 20
      · rw [if_pos z, htk j z]; exact by_i8 _
      · rw [if_neg z, htn j z]; exact (t6 j hj).1
    · by_cases z : T ≤ j ∧ j < T + 20
      · rw [htk j z]; exact hfl _
      · rw [htn j z]; exact t5 j hj
    · rw [e0 8 (by decide), e3 14 (by decide) (by decide)]; exact h8
    · exact nrm_ag h13 (fun q r1 r2 => eI q (by omega) (by omega) (by omega) (by omega) (by omega))
