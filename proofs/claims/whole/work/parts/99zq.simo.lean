/-! PAIRS: how far, odds, even stores, the spit, the tape -/
theorem far_fv {p x : Int32} {e : Nat} : ∀ r i, farF p e (r + 1) i (itC p x i) = farV (fun i => hasP (itC p x i) e) r i
  | 0 => fun i => rfl
  | r + 1 => fun i => by
    show (if hasP (itC p x i) e then nI i else farF p e (r + 1) (i + 1) (itC p x (i + 1))) = (if hasP (itC p x i) e then nI i else farV (fun i => hasP (itC p x i) e) r (i + 1))
    rw [far_fv r (i + 1)]
theorem far_x {P : Nat → Prop} [∀ i, Decidable (P i)] : ∀ r i, (P (i + r + 1) → P (i + r)) → farV P (r + 1) i = farV P r i
  | 0 => fun i h => by
    show (if P i then nI i else if P (i + 1) then nI (i + 1) else -1) = (if P i then nI i else -1)
    by_cases q : P i
    · rw [if_pos q, if_pos q]
    · rw [if_neg q, if_neg q, if_neg (fun z => q (h z))]
  | r + 1 => fun i h => by
    show (if P i then nI i else farV P (r + 1) (i + 1)) = (if P i then nI i else farV P r (i + 1))
    rw [far_x r (i + 1) (by rw [show i + 1 + r = i + (r + 1) by omega]; exact h)]
theorem it_25 {p x : Int32} (hx : low25 x) : itC p x 25 = itC p x 24 := by
  by_cases h : x = nI 0
  · have hz : ∀ i, itC p x i = nI 0 := by
      intro i
      induction i with
      | zero => exact h
      | succ i ih => rw [itC_s, ih]; unfold moreC besideC; exact b_ext (fun j hj => by
          have e0 : ∀ y : Int32, y = nI 0 → jshr (y &&& (-1082402)) (nI 1) ||| jshl (y &&& (-17318417)) (nI 1) ||| jshr y (nI 5) ||| jshl y (nI 5) = nI 0 := by intro y hy; subst hy; decide
          rw [e0 _ rfl, b_or, b_and, b_and, bt_n0, Bool.false_and, Bool.false_and, Bool.false_or])
    rw [hz, hz]
  · exact it_24 hx h
theorem far_cg {P Q : Nat → Prop} [∀ i, Decidable (P i)] [∀ i, Decidable (Q i)] (h : ∀ i, P i ↔ Q i) : ∀ r i, farV P r i = farV Q r i
  | 0 => fun i => by
    show (if P i then nI i else -1) = (if Q i then nI i else -1)
    by_cases q : P i
    · rw [if_pos q, if_pos ((h i).mp q)]
    · rw [if_neg q, if_neg (fun z => q ((h i).mpr z))]
  | r + 1 => fun i => by
    show (if P i then nI i else farV P r (i + 1)) = (if Q i then nI i else farV Q r (i + 1))
    by_cases q : P i
    · rw [if_pos q, if_pos ((h i).mp q)]
    · rw [if_neg q, if_neg (fun z => q ((h i).mpr z)), far_cg h r (i + 1)]
theorem far_eq {p : Int32} {c e : Nat} (hc : c < 25) : farF p e 25 0 (p &&& jshl (nI 1) (nI c)) = farV (fun i => hasP (pieN (jshl (nI 1) (nI c) &&& p) p i) e) 25 0 := by
  have hl : low25 (jshl (nI 1) (nI c) &&& p) := low25_and (low25_s1 hc)
  rw [and_cm p]
  have h1 : farF p e 25 0 (jshl (nI 1) (nI c) &&& p) = farV (fun i => hasP (itC p (jshl (nI 1) (nI c) &&& p) i) e) 24 0 := far_fv 24 0
  rw [h1, ← far_x (P := fun i => hasP (itC p (jshl (nI 1) (nI c) &&& p) i) e) 24 0 (fun z => by
    have e25 := it_25 (p := p) hl
    show hasP (itC p (jshl (nI 1) (nI c) &&& p) 24) e
    rw [← e25]; exact z)]
  exact far_cg (fun i => by rw [pieN_it hl i]) 25 0
set_option maxRecDepth 1000000 in
theorem odd_dec : ∀ k : Fin 101, ∀ a : Fin 6, ∀ c : Fin 6, oddV (nI k.1) a.1 c.1 = rodV (nI k.1) a.1 c.1 := by decide +kernel
theorem jmx_n {k : Nat} (h : k < 2 ^ 31) : jmax (nI k) (nI 0) = nI k := by unfold jmax; rw [if_neg (show ¬ nI k < nI 0 from nI_pos h)]
theorem neg_nI (a b : Nat) (h : a < b) (hb : b < 2 ^ 30) : nI a - nI b < nI 0 := by
  rw [Int32.lt_iff_toInt_lt, Int32.toInt_sub]
  have e : ∀ k, k < 2 ^ 30 → (nI k).toInt = (k : Int) := fun k hk => nI_toInt (by omega)
  rw [e a (by omega), e b hb, e 0 (by decide), Int.bmod_eq_of_le (by omega) (by omega)]
  omega
theorem even_st {S : Mem} {st : Nat → Nat} {H m e : Nat} (hS : ∀ h, h < H → S 8 h = nI (st h) ∧ st h ≤ 999) (he : e ≤ 6000) (hm : m ≤ 6) (h1 : sumN (S 8) 6 / nI H = nI e) (h2 : jrem (sumN (S 8) 6) (nI H) = nI m) : ∀ i, i ≤ H → evenF S H i = (nI (m - min m (cE st e (fun _ => nI 0) i)), nI (uE st e (fun _ => nI 0) i - min m (cE st e (fun _ => nI 0) i)))
  | 0 => fun _ => by
    show (jrem (sumN (S 8) 6) (nI H), nI 0) = _
    rw [h2]
    show (nI m, nI 0) = (nI (m - min m 0), nI (0 - min m 0))
    rw [Nat.min_zero, Nat.sub_zero]
  | i + 1 => fun hi => by
    obtain ⟨s1, s2⟩ := hS i (by omega)
    have ih := even_st hS he hm h1 h2 i (by omega)
    have hc := cE_le (st := st) (e := e) (r := fun _ => nI 0) i
    show evenS S (sumN (S 8) 6 / nI H) i (evenF S H i) = (nI (m - min m (cE st e (fun _ => nI 0) i + (if nI 0 = nI 0 ∧ e < st i then 1 else 0))), nI (uE st e (fun _ => nI 0) i + (if nI 0 = nI 0 then st i - e else 0) - min m (cE st e (fun _ => nI 0) i + (if nI 0 = nI 0 ∧ e < st i then 1 else 0))))
    rw [ih, h1]
    unfold evenS
    dsimp only
    rw [s1, if_pos (show nI 0 = nI 0 from rfl)]
    generalize cE st e (fun _ => nI 0) i = C at *
    generalize uE st e (fun _ => nI 0) i = U at *
    by_cases q : e < st i
    · rw [nI_sub (by omega), if_pos (show nI 0 = nI 0 ∧ e < st i from ⟨rfl, q⟩)]
      by_cases z : min m C < m
      · rw [if_pos ⟨nI_lt (by omega) (by omega), nI_lt (by omega) (by omega)⟩, nI_sub1 (by omega), nI_sub1 (by omega)]
        have hj : jmax (nI (st i - e - 1)) (nI 0) = nI (st i - e - 1) := jmx_n (by omega)
        rw [hj, nI_add, show m - min m C - 1 = m - min m (C + 1) by omega, show U - min m C + (st i - e - 1) = U + (st i - e) - min m (C + 1) by omega]
      · rw [if_neg (fun w => by have := nI_lt_inv (by omega) (by omega) w.2; omega)]
        have hj : jmax (nI (st i - e)) (nI 0) = nI (st i - e) := jmx_n (by omega)
        rw [hj, nI_add, show m - min m (C + 1) = m - min m C by omega, show U - min m C + (st i - e) = U + (st i - e) - min m (C + 1) by omega]
    · have hd : nI (st i) - nI e < nI 0 ∨ nI (st i) - nI e = nI 0 := by
        by_cases z : st i = e
        · right; rw [z, nI_sub (Nat.le_refl _), Nat.sub_self]
        · left
          have : ∀ a b, a < b → b < 2 ^ 30 → nI a - nI b < nI 0 := neg_nI
          exact this _ _ (by omega) (by omega)
      have hnp : ¬ nI 0 < nI (st i) - nI e := by
        rcases hd with z | z
        · exact fun w => Int32.lt_irrefl (Int32.lt_trans w z)
        · rw [z]; exact fun w => Int32.lt_irrefl w
      have hj : jmax (nI (st i) - nI e) (nI 0) = nI 0 := by
        unfold jmax
        rcases hd with z | z
        · rw [if_pos z]
        · rw [z, if_neg (fun w => Int32.lt_irrefl w)]
      rw [if_neg (fun w => hnp w.1), hj, add_0, if_neg (fun w => q w.2), Nat.add_zero, show st i - e = 0 by omega, Nat.add_zero]
theorem spi_c {x hp : Int32} {D : Nat → Int32} {d c : Nat} {y : Int32} (hD : D c = nI d) (hd : d ≤ 9) (hh : nimC D x = hp) : spiI x hp d c (min 3 d) y (min 3 d) = (match spitI (nimC D x) (spitD D x c) c 3 1 with
    | some v => v
    | none => y) := by
  rw [hh]
  by_cases p : hasP x c
  · have hp1 : spitD D x c = nI d := by unfold spitD; rw [if_pos p, hD]
    rw [hp1]
    have hi : ∀ k, k ≤ d → (hp ^^^ jrem (nI d) (nI 4) ^^^ jrem (nI d - nI k) (nI 4) = nI 0 ↔ spiP x hp d c k) := fun k hk => by
      rw [nI_sub hk, nI_rem (by omega) (by omega), nI_rem (by omega) (by omega)]
      exact ⟨fun z => ⟨p, z⟩, fun z => z.2⟩
    unfold spitI
    by_cases d0 : d = 0
    · subst d0
      rw [if_pos (by decide)]; rfl
    · rw [if_neg (nI_nlt (by omega) (by omega))]
      unfold spitI
      by_cases d1 : d = 1
      · subst d1
        show (if spiP x hp 1 c (1 - 0) then nI (4 * c + (1 - 0)) else y) = _
        by_cases z : spiP x hp 1 c 1
        · rw [if_pos z, if_pos ((hi 1 (by omega)).mpr z)]
        · rw [if_neg z, if_neg (fun w => z ((hi 1 (by omega)).mp w)), if_pos (by decide)]
      · rw [if_neg (nI_nlt (by omega) (by omega) : ¬ nI d < nI 2)]
        unfold spitI
        by_cases d2 : d = 2
        · subst d2
          show (if spiP x hp 2 c (2 - 1) then nI (4 * c + (2 - 1)) else if spiP x hp 2 c (2 - 0) then nI (4 * c + (2 - 0)) else y) = _
          by_cases z : spiP x hp 2 c 1
          · rw [if_pos z, if_pos ((hi 1 (by omega)).mpr z)]
          · rw [if_neg z, if_neg (fun w => z ((hi 1 (by omega)).mp w))]
            by_cases z2 : spiP x hp 2 c 2
            · rw [if_pos z2, if_pos ((hi 2 (by omega)).mpr z2)]
            · rw [if_neg z2, if_neg (fun w => z2 ((hi 2 (by omega)).mp w)), if_pos (by decide)]
        · rw [if_neg (nI_nlt (by omega) (by omega) : ¬ nI d < nI 3), show min 3 d = 3 by omega]
          show (if spiP x hp d c (3 - 2) then nI (4 * c + (3 - 2)) else if spiP x hp d c (3 - 1) then nI (4 * c + (3 - 1)) else if spiP x hp d c (3 - 0) then nI (4 * c + (3 - 0)) else y) = _
          by_cases z : spiP x hp d c 1
          · rw [if_pos z, if_pos ((hi 1 (by omega)).mpr z)]
          · rw [if_neg z, if_neg (fun w => z ((hi 1 (by omega)).mp w))]
            by_cases z2 : spiP x hp d c 2
            · rw [if_pos z2, if_pos ((hi 2 (by omega)).mpr z2)]
            · rw [if_neg z2, if_neg (fun w => z2 ((hi 2 (by omega)).mp w))]
              by_cases z3 : spiP x hp d c 3
              · rw [if_pos z3, if_pos ((hi 3 (by omega)).mpr z3)]
              · rw [if_neg z3, if_neg (fun w => z3 ((hi 3 (by omega)).mp w))]; rfl
  · have hp1 : spitD D x c = nI 0 := by unfold spitD; rw [if_neg p]
    rw [hp1]
    unfold spitI
    rw [if_pos (by decide)]
    have : ∀ mn j, spiI x hp d c mn y j = y := fun mn j => by
      induction j with
      | zero => rfl
      | succ j ih => rw [spiI_s, if_neg (fun w => p w.1), ih]
    exact this _ _
theorem spi_n {x hp : Int32} {D : Nat → Int32} {dp : Nat → Nat} (hD : ∀ c, c < 25 → D c = nI (dp c) ∧ dp c ≤ 9) (hh : nimC D x = hp) : ∀ i, i ≤ 25 → spiN x hp dp i = spitO D x i (25 - i)
  | 0 => fun _ => rfl
  | i + 1 => fun hi => by
    show spiI x hp (dp (24 - i)) (24 - i) (min 3 (dp (24 - i))) (spiN x hp dp i) (min 3 (dp (24 - i))) = _
    rw [spi_c (hD (24 - i) (by omega)).1 (hD (24 - i) (by omega)).2 hh, spi_n hD hh i (by omega), show 25 - (i + 1) = 24 - i by omega, show 25 - i = 24 - i + 1 by omega]
    rfl
theorem spi_0d : ∀ d : Fin 10, ∀ i : Fin 4, 1 ≤ i.1 → ¬ nI d.1 < nI i.1 → ¬ nI 0 ^^^ jrem (nI d.1) (nI 4) ^^^ jrem (nI d.1 - nI i.1) (nI 4) = nI 0 := by decide +kernel
theorem spi_0 {d c : Nat} (hd : d ≤ 9) : spitI (nI 0) (nI d) c 3 1 = none := by
  have h := fun i (hi : i < 4) => spi_0d ⟨d, by omega⟩ ⟨i, hi⟩
  dsimp only at h
  unfold spitI
  by_cases a : nI d < nI 1
  · rw [if_pos a]
  · rw [if_neg a, if_neg (h 1 (by decide) (by decide) a)]
    unfold spitI
    by_cases b : nI d < nI 2
    · rw [if_pos b]
    · rw [if_neg b, if_neg (h 2 (by decide) (by decide) b)]
      unfold spitI
      by_cases e : nI d < nI 3
      · rw [if_pos e]
      · rw [if_neg e, if_neg (h 3 (by decide) (by decide) e)]; rfl
theorem spi_z {x : Int32} {D : Nat → Int32} {dp : Nat → Nat} (hD : ∀ c, c < 25 → D c = nI (dp c) ∧ dp c ≤ 9) (hh : nimC D x = nI 0) : ∀ r c, c + r ≤ 25 → spitO D x r c = -1
  | 0 => fun _ _ => rfl
  | r + 1 => fun c hc => by
    have : spitI (nimC D x) (spitD D x c) c 3 1 = none := by
      rw [hh]
      unfold spitD
      split
      · rw [(hD c (by omega)).1]; exact spi_0 (hD c (by omega)).2
      · exact spi_0 (d := 0) (by decide)
    unfold spitO
    rw [this]
    exact spi_z hD hh r (c + 1) (by omega)
theorem spit_eq {x : Int32} {D : Nat → Int32} {dp : Nat → Nat} (hD : ∀ c, c < 25 → D c = nI (dp c) ∧ dp c ≤ 9) : spitC D x = spiN x (nimC D x) dp 25 := by
  rw [spi_n hD rfl 25 (Nat.le_refl _)]
  unfold spitC
  by_cases q : nimC D x = nI 0
  · rw [if_pos q, spi_z hD q 25 _ (by omega)]
  · rw [if_neg q]
theorem dp_ex {w : Nat → Int32} {H : Nat} (hw : WB w H) : ∃ dp : Nat → Nat, ∀ c, c < 25 → w (9 + 6 * c + 0) = nI (dp c) ∧ dp c ≤ 9 := by
  have h : ∀ c : Nat, ∃ a, c < 25 → w (9 + 6 * c + 0) = nI a ∧ a ≤ 9 := fun c => by
    by_cases q : c < 25
    · obtain ⟨a, a1, a2⟩ := (hw.2.2.2.2.2.1 c q).1
      exact ⟨a, fun _ => ⟨a2, a1⟩⟩
    · exact ⟨0, fun z => absurd z q⟩
  exact ⟨fun c => Classical.choose (h c), fun c hc => Classical.choose_spec (h c) hc⟩
theorem st_ex {w : Nat → Int32} {H : Nat} (hw : WB w H) : ∃ st : Nat → Nat, StW w st := by
  have h : ∀ c : Nat, ∃ a, c < 6 → w (159 + 4 * c + 2) = nI a ∧ a ≤ 999 := fun c => by
    by_cases q : c < 6
    · obtain ⟨a, a1, a2⟩ := (hw.2.2.2.2.2.2.1 c q).1
      exact ⟨a, fun _ => ⟨a2, a1⟩⟩
    · exact ⟨0, fun z => absurd z q⟩
  exact ⟨fun c => Classical.choose (h c), fun c hc => Classical.choose_spec (h c) hc⟩
theorem o_far {N d : Nat} {xs : Nat → Int32} {K : Nat → Nat × Nat} {I : Mem} {L : Nat → Nat → Int64} {R : Nat → Nat → Option Nat} {n s : Nat} {x z : Int32} (h : Sim N xs K I L R n) (hn : n + 6 ≤ lmCells) (hs : s + 876 ≤ lmSlots) : Ok (d + 40) 184 [.ref 0, .int x, .int z, .ref 337] (K, I, L, R, n, s) (AftC N xs (d + 40) 343 [.ref 318, .int x, .int z] n s false) := by
  obtain ⟨hB, ⟨o, ro, H, hS⟩, hK, hTp, ⟨p, A, Ss, hP, hA, hPs⟩, h8, h13, h25⟩ := id h
  have hT := hB.1
  have h338 := hT.2.2
  have hw := hS.2.1.1
  have hH6 := hS.2.1.2.1
  have hTe := fun ci => tk_ex (ci := ci) hT hB.2.2.2.2.2
  have hwe : upr I n (fun _ => (0 : Int32)) 319 0 = nI H := by rw [upr_ne (by omega)]; exact hw
  refine w_far (d := d + 38) (TK.k1 hT rfl) ?_
  refine c_far (d := d + 37) hT (by omega) (by omega) (fun hx => ?_) (fun c e hc he hx hz => ?_)
  · refine wrq_e1 (mide hB) ?_
    by_cases q : InR x 25
    · obtain ⟨c, hc, rfl⟩ := id q
      exact m_farE2 (d := d + 36) (hTe 16) hc (fun q2 => hx ⟨q, q2⟩) (aft_e h hn (by decide))
    · exact m_farE1 (d := d + 36) (hTe 16) q (aft_e h hn (by decide))
  · subst hx hz
    refine wrq_v hT (mid0 hB) (m_far (d := d + 36) hT hc he ?_)
    rw [peat_eq hS.1, far_eq hc]
    exact aft_v h
theorem o_odds {N d : Nat} {xs : Nat → Int32} {K : Nat → Nat × Nat} {I : Mem} {L : Nat → Nat → Int64} {R : Nat → Nat → Option Nat} {n s : Nat} {x z : Int32} (h : Sim N xs K I L R n) (hn : n + 6 ≤ lmCells) (hs : s + 876 ≤ lmSlots) : Ok (d + 40) 193 [.ref 0, .int x, .int z, .ref 337] (K, I, L, R, n, s) (AftC N xs (d + 40) 350 [.ref 318, .int x, .int z] n s false) := by
  obtain ⟨hB, ⟨o, ro, H, hS⟩, hK, hTp, ⟨p, A, Ss, hP, hA, hPs⟩, h8, h13, h25⟩ := id h
  have hT := hB.1
  have h338 := hT.2.2
  have hw := hS.2.1.1
  have hH6 := hS.2.1.2.1
  have hTe := fun ci => tk_ex (ci := ci) hT hB.2.2.2.2.2
  have hwe : upr I n (fun _ => (0 : Int32)) 319 0 = nI H := by rw [upr_ne (by omega)]; exact hw
  obtain ⟨k, k1, k2⟩ := hS.2.1.2.2.2.2.1
  refine w_odds (d := d + 38) (TK.k1 hT rfl) ?_
  refine c_odds (d := d + 37) hT hB.2.1 (by omega) (by omega) (fun hx => ?_) (fun a c ha hc hx hz => ?_)
  · refine wrq_e1 (mide hB) ?_
    by_cases q : (¬ x < nI 0 ∧ ¬ nI 5 < x)
    · obtain ⟨a, ha, rfl⟩ := (InR_iff (by decide)).mp q
      exact m_oddsE2 (d := d + 38) (hTe 14) (by omega) (fun q2 => hx ⟨q, q2⟩) (aft_e h hn (by decide))
    · exact m_oddsE1 (d := d + 38) (hTe 14) q (aft_e h hn (by decide))
  · subst hx hz
    refine wrq_v hT (mid0 hB) (m_odds (d := d + 38) hT ha hc (fun V => ?_))
    rw [(sim_r0 hS.1).2.2.2.1, k2, odd_dec ⟨k, by omega⟩ ⟨a, by omega⟩ ⟨c, by omega⟩]
    have hb2 : 337 < lmB := by decide
    exact ⟨_, rfl, (show up2 I 318 0 (nI 0) 318 0 = nI 0 from up2_hit), fun _ => (show upr (up2 L 337 0 _) 336 V 337 0 = _ from by rw [upr_ne (by decide)]; exact up2_hit), sim_up h (fun a ha => up2_row (by omega)) (fun j hj => by show up2 I 318 0 (nI 0) 318 j = _; rw [up2_same, if_neg (by omega)]) (fun a ha => by show upr (up2 L 337 0 _) 336 V a = _; rw [upr_ne (by omega)]; exact up_lmB a ha), by show n ≤ n + 6; omega, by show s ≤ s + 876; omega⟩
theorem o_even {N d : Nat} {xs : Nat → Int32} {K : Nat → Nat × Nat} {I : Mem} {L : Nat → Nat → Int64} {R : Nat → Nat → Option Nat} {n s : Nat} (h : Sim N xs K I L R n) : Ok (d + 40) 41 [.ref 0] (K, I, L, R, n, s) (DirC N xs (d + 40) 333 [.ref 318] n s) := by
  obtain ⟨hB, ⟨o, ro, H, hS⟩, hK, hTp, ⟨p, A, Ss, hP, hA, hPs⟩, h8, h13, h25⟩ := id h
  have hT := hB.1
  have h338 := hT.2.2
  have hw := hS.2.1.1
  have hH6 := hS.2.1.2.1
  obtain ⟨st, hst⟩ := st_ex hS.2.1
  refine c_even (d := d + 38) hT (st_H hS) hH6 ⟨_, rfl, ?_, mid0 hB⟩
  by_cases hz : H = 0
  · subst hz
    refine m_even0 (d := d + 36) hT hw ?_
    rw [show evenC (vw 1 I) 0 = nI 0 from if_pos rfl]
    exact dir_v h
  · refine m_even (d := d + 36) hT hw hH6 hst (by omega) (fun v => ?_)
    have hs8 : ∀ h, h < H → vw 1 I 8 h = nI (st h) ∧ st h ≤ 999 := fun q hq => ⟨(sim_h8 (b := 1) (I := I) hS.1 (by omega)).trans (hst q (by omega)).1, (hst q (by omega)).2⟩
    have hsum : sumN (vw 1 I 8) 6 = nI (sNt st H) := by rw [sim_row hS.1 (show 8 < 10 by decide), sum_6 hS.2.1]; exact sum_st hst hH6
    have hle : sNt st H ≤ 6000 := Nat.le_trans (sNt_le (m := 999) H (fun j hj => (hst j (by omega)).2)) (by have : H * 999 ≤ 6 * 999 := Nat.mul_le_mul_right 999 hH6; omega)
    have hdl : sNt st H / H ≤ 6000 := Nat.le_trans (Nat.div_le_self _ _) hle
    have hml : sNt st H % H < H := Nat.mod_lt _ (by omega)
    have e := even_st (S := vw 1 I) (st := st) (H := H) (m := sNt st H % H) (e := sNt st H / H) hs8 hdl (by omega) (by rw [hsum]; exact nI_div (by omega) (by omega)) (by rw [hsum]; exact nI_rem (by omega) (by omega)) H (Nat.le_refl _)
    rw [show evenC (vw 1 I) H = nI (evnV st H) from by
      unfold evenC
      rw [if_neg hz, e]
      show _ = nI (uE st (sNt st H / H) (fun _ => nI 0) H - min (sNt st H % H - 0) (cE st (sNt st H / H) (fun _ => nI 0) H))
      rw [Nat.sub_zero]]
    exact dir_mk (sim_up h (fun a ha => by rw [upr_ne (by omega), up2_row (by omega)]) (fun j hj => by rw [upr_ne (by omega), up2_same, if_neg (by omega)]) (fun _ _ => rfl)) (by omega) (by omega)
theorem o_spit {N d : Nat} {xs : Nat → Int32} {K : Nat → Nat × Nat} {I : Mem} {L : Nat → Nat → Int64} {R : Nat → Nat → Option Nat} {n s : Nat} {x : Int32} (h : Sim N xs K I L R n) : Ok (d + 40) 45 [.ref 0, .int x] (K, I, L, R, n, s) (DirC N xs (d + 40) 337 [.ref 318, .int x] n s) := by
  obtain ⟨hB, ⟨o, ro, H, hS⟩, hK, hTp, ⟨p, A, Ss, hP, hA, hPs⟩, h8, h13, h25⟩ := id h
  have hT := hB.1
  have h338 := hT.2.2
  have hw := hS.2.1.1
  have hH6 := hS.2.1.2.1
  obtain ⟨dp, hdp⟩ := dp_ex hS.2.1
  refine c_spit (d := d + 38) hT ⟨_, rfl, m_spit (d := d + 36) hT hdp ?_, mid0 hB⟩
  rw [← nim_eq hS.1, spit_eq (dp := dp) (fun c hc => ⟨(sim_c1 (b := 1) (I := I) hS.1 hc).trans (hdp c hc).1, (hdp c hc).2⟩)]
  exact dir_v h
