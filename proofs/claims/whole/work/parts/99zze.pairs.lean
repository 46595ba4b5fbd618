/-! HEARTHS TWO BY TWO: numbers of 64 bits -/
theorem t8_add {x y : Int64} {a b : Int} (hx : x.toInt = a) (hy : y.toInt = b) (h1 : -4611686018427387904 ≤ a + b) (h2 : a + b < 4611686018427387904) : (x + y).toInt = a + b := by
  rw [Int64.toInt_add, hx, hy]; exact Int.bmod_eq_of_le (by omega) (by omega)
theorem t8_sub {x y : Int64} {a b : Int} (hx : x.toInt = a) (hy : y.toInt = b) (h1 : -4611686018427387904 ≤ a - b) (h2 : a - b < 4611686018427387904) : (x - y).toInt = a - b := by
  rw [Int64.toInt_sub, hx, hy]; exact Int.bmod_eq_of_le (by omega) (by omega)
theorem t8_mul {x y : Int64} {a b : Int} (hx : x.toInt = a) (hy : y.toInt = b) (h1 : -4611686018427387904 ≤ a * b) (h2 : a * b < 4611686018427387904) : (x * y).toInt = a * b := by
  rw [Int64.toInt_mul, hx, hy]; exact Int.bmod_eq_of_le (by omega) (by omega)
theorem t8_div {x y : Int64} {a b : Nat} (hx : x.toInt = a) (hy : y.toInt = b) (h2 : a < 4611686018427387904) : (x / y).toInt = (a / b : Nat) := by
  have hb : a / b ≤ a := Nat.div_le_self a b
  rw [Int64.toInt_div, hx, hy, ← Int.ofNat_tdiv]
  generalize a / b = c at hb ⊢
  exact Int.bmod_eq_of_le (by omega) (by omega)
theorem t8_rem {x y : Int64} {a b : Nat} (hx : x.toInt = a) (hy : y.toInt = b) (h2 : a < 4611686018427387904) : (jrem8 x y).toInt = (a % b : Nat) := by
  have h := t8_div hx hy h2
  have hb : a / b * b ≤ a := Nat.div_mul_le_self a b
  have he : ((a / b : Nat) : Int) * (b : Int) = ((a / b * b : Nat) : Int) := by rw [Int.natCast_mul]
  have h3 := t8_mul h hy (by rw [he]; omega) (by rw [he]; omega)
  have h4 := t8_sub hx h3 (by rw [he]; omega) (by rw [he]; omega)
  unfold jrem8
  rw [h4, he]
  have h5 := Nat.div_add_mod a b
  rw [Nat.mul_comm] at h5
  generalize a / b * b = c at *
  omega
theorem t8_max {x y : Int64} {a b : Int} (hx : x.toInt = a) (hy : y.toInt = b) : (jmax8 x y).toInt = max a b := by
  unfold jmax8
  rw [Int.max_def]
  by_cases h : y < x
  · rw [if_pos h, hx]
    rw [Int64.lt_iff_toInt_lt, hx, hy] at h
    rw [if_neg (by omega)]
  · rw [if_neg h, hy]
    rw [Int64.lt_iff_toInt_lt, hx, hy] at h
    by_cases q : a ≤ b
    · rw [if_pos q]
    · omega
theorem t8_32 {x : Int64} {a : Nat} (hx : x.toInt = a) : x.toInt32 = nI a := by
  rw [← Int64.ofInt_toInt x, hx, Int64.toInt32_ofInt, Int32.ofInt_eq_ofNat]; rfl
theorem t8_n {k : Nat} (h : k < 2 ^ 31) : (nI k).toInt64.toInt = (k : Int) := by rw [Int32.toInt_toInt64, nI_toInt h]
/-! digits of seven -/
def pd7 (h : Nat) : Nat := [16807, 2401, 343, 49, 7, 1].getD h 0
theorem pd_t {h : Nat} (hh : h < 6) : (pdV h).toInt = (pd7 h : Int) ∧ pd7 h ≤ 16807 := by
  have : h = 0 ∨ h = 1 ∨ h = 2 ∨ h = 3 ∨ h = 4 ∨ h = 5 := by omega
  rcases this with rfl | rfl | rfl | rfl | rfl | rfl <;> decide
def vl7 (dg : Nat → Nat) : Nat := dg 0 * 16807 + dg 1 * 2401 + dg 2 * 343 + dg 3 * 49 + dg 4 * 7 + dg 5
theorem vl_b {dg : Nat → Nat} (h : ∀ j, dg j ≤ 6) : vl7 dg ≤ 117648 := by
  unfold vl7
  have h0 := h 0
  have h1 := h 1
  have h2 := h 2
  have h3 := h 3
  have h4 := h 4
  have h5 := h 5
  omega
theorem vl_dg {dg : Nat → Nat} (h : ∀ j, dg j ≤ 6) {j : Nat} (hj : j < 6) : vl7 dg / pd7 j % 7 = dg j := by
  unfold vl7
  have h0 := h 0
  have h1 := h 1
  have h2 := h 2
  have h3 := h 3
  have h4 := h 4
  have h5 := h 5
  have : j = 0 ∨ j = 1 ∨ j = 2 ∨ j = 3 ∨ j = 4 ∨ j = 5 := by omega
  rcases this with rfl | rfl | rfl | rfl | rfl | rfl
  · show _ / 16807 % 7 = _; omega
  · show _ / 2401 % 7 = _; omega
  · show _ / 343 % 7 = _; omega
  · show _ / 49 % 7 = _; omega
  · show _ / 7 % 7 = _; omega
  · show _ / 1 % 7 = _; omega
theorem vl_lt {a b : Nat → Nat} (ha : ∀ j, a j ≤ 6) {l : Nat} (hl : l < 6) (h : ∀ j, j < l → a j = 0) (hb : a l < b l) : vl7 a < vl7 b := by
  unfold vl7
  have h0 := ha 0
  have h1 := ha 1
  have h2 := ha 2
  have h3 := ha 3
  have h4 := ha 4
  have h5 := ha 5
  have : l = 0 ∨ l = 1 ∨ l = 2 ∨ l = 3 ∨ l = 4 ∨ l = 5 := by omega
  rcases this with rfl | rfl | rfl | rfl | rfl | rfl
  · omega
  · have z0 := h 0 (by omega); omega
  · have z0 := h 0 (by omega); have z1 := h 1 (by omega); omega
  · have z0 := h 0 (by omega); have z1 := h 1 (by omega); have z2 := h 2 (by omega); omega
  · have z0 := h 0 (by omega); have z1 := h 1 (by omega); have z2 := h 2 (by omega); have z3 := h 3 (by omega); omega
  · have z0 := h 0 (by omega); have z1 := h 1 (by omega); have z2 := h 2 (by omega); have z3 := h 3 (by omega); have z4 := h 4 (by omega); omega
theorem vl_cg {a b : Nat → Nat} (h : ∀ j, j < 6 → a j = b j) : vl7 a = vl7 b := by
  unfold vl7
  rw [h 0 (by decide), h 1 (by decide), h 2 (by decide), h 3 (by decide), h 4 (by decide), h 5 (by decide)]
theorem vl_up {dg : Nat → Nat} {l v : Nat} (hl : l < 6) (h : dg l = 0) : vl7 (up1 dg l v) = vl7 dg + v * pd7 l := by
  unfold vl7
  have : l = 0 ∨ l = 1 ∨ l = 2 ∨ l = 3 ∨ l = 4 ∨ l = 5 := by omega
  rcases this with rfl | rfl | rfl | rfl | rfl | rfl
  · rw [up1_hit, up1_ne (by decide), up1_ne (by decide), up1_ne (by decide), up1_ne (by decide), up1_ne (by decide), h]; show _ = _ + v * 16807; omega
  · rw [up1_hit, up1_ne (by decide), up1_ne (by decide), up1_ne (by decide), up1_ne (by decide), up1_ne (by decide), h]; show _ = _ + v * 2401; omega
  · rw [up1_hit, up1_ne (by decide), up1_ne (by decide), up1_ne (by decide), up1_ne (by decide), up1_ne (by decide), h]; show _ = _ + v * 343; omega
  · rw [up1_hit, up1_ne (by decide), up1_ne (by decide), up1_ne (by decide), up1_ne (by decide), up1_ne (by decide), h]; show _ = _ + v * 49; omega
  · rw [up1_hit, up1_ne (by decide), up1_ne (by decide), up1_ne (by decide), up1_ne (by decide), up1_ne (by decide), h]; show _ = _ + v * 7; omega
  · rw [up1_hit, up1_ne (by decide), up1_ne (by decide), up1_ne (by decide), up1_ne (by decide), up1_ne (by decide), h]; show _ = _ + v * 1; omega
/-! the first hearth of a set taken out -/
def stD (l k : Nat) (dg : Nat → Nat) : Nat → Nat := match k with
  | 0 => up1 dg l 0
  | g + 1 => up1 (up1 dg g (l + 1)) l (g + 1)
theorem st_vl0 {l : Nat} {dg : Nat → Nat} (hl : l < 6) (h : dg l = 0) : vl7 (stD l 0 dg) = vl7 dg := by
  show vl7 (up1 dg l 0) = _
  rw [vl_up hl h, Nat.zero_mul, Nat.add_zero]
theorem st_vl1 {l g : Nat} {dg : Nat → Nat} (hl : l < 6) (hg : g < 6) (hlg : l < g) (h : dg l = 0) (h2 : dg g = 0) : vl7 (stD l (g + 1) dg) = vl7 dg + (l + 1) * pd7 g + (g + 1) * pd7 l := by
  show vl7 (up1 (up1 dg g (l + 1)) l (g + 1)) = _
  rw [vl_up hl (by rw [up1_ne (by omega)]; exact h), vl_up hg h2]
theorem st_l {l k : Nat} {dg : Nat → Nat} : stD l k dg l = k := by
  cases k with
  | zero => exact up1_hit
  | succ g => exact up1_hit
theorem st_b {l k : Nat} {dg : Nat → Nat} (hl : l < 6) (hk : k ≤ 6) (h : ∀ j, dg j ≤ 6) : ∀ j, stD l k dg j ≤ 6 := fun j => by
  by_cases e : j = l
  · rw [e, st_l]; exact hk
  · cases k with
    | zero => show up1 dg l 0 j ≤ 6; rw [up1_ne e]; exact h j
    | succ g =>
      show up1 (up1 dg g (l + 1)) l (g + 1) j ≤ 6
      rw [up1_ne e]
      by_cases e2 : j = g
      · rw [e2, up1_hit]; omega
      · rw [up1_ne e2]; exact h j
theorem st_o {l k j : Nat} {dg : Nat → Nat} (h : ¬ j = l) (h2 : ¬ k = j + 1) : stD l k dg j = dg j := by
  cases k with
  | zero => exact up1_ne h
  | succ g =>
    show up1 (up1 dg g (l + 1)) l (g + 1) j = _
    rw [up1_ne h, up1_ne (by omega)]
theorem st_g {l j : Nat} {dg : Nat → Nat} (h : ¬ j = l) : stD l (j + 1) dg j = l + 1 := by
  show up1 (up1 dg j (l + 1)) l (j + 1) j = _
  rw [up1_ne h, up1_hit]
theorem lw_low : ∀ m : Fin 64, 1 ≤ m.1 → ∀ g : Fin 6, (hasP (nI (clr m.1 (lw6 m.1))) g.1 → lw6 m.1 < g.1) ∧ (g.1 < lw6 m.1 → ¬ hasP (nI m.1) g.1) := by decide +kernel
theorem has_H : ∀ H : Fin 7, ∀ m : Fin 64, m.1 < 2 ^ H.1 → ∀ g : Fin 6, hasP (nI m.1) g.1 → g.1 < H.1 := by decide +kernel
/-! the class's row -/
theorem prB_s {S : Mem} {H i : Nat} {g : Nat → Int64} : prB S H g (i + 1) = up1 (prB S H g i) (1 + i) (bpV S (prB S H g i) H (1 + i)) := rfl
theorem prB_fin {S : Mem} {H : Nat} {g : Nat → Int64} : ∀ i m, m ≤ i → prB S H g i m = prB S H g m m
  | 0, m => fun h => by rw [show m = 0 by omega]
  | i + 1, m => fun h => by
    by_cases e : m = i + 1
    · rw [e]
    · rw [prB_s, up1_ne (by omega)]; exact prB_fin i m (by omega)
theorem bpV_ag {S : Mem} {B C : Nat → Int64} {H m : Nat} (hH : H ≤ 6) (hm : m < 64) (hm1 : 1 ≤ m) (h : ∀ q, q < m → B q = C q) : bpV S B H m = bpV S C H m := by
  have h1 := lw6_ok ⟨m, hm⟩ hm1
  dsimp only at h1
  unfold bpV bpN
  rw [show B (clr m (lowF m 5 0)) = C (clr m (lowF m 5 0)) from h _ h1.2.2.1]
  refine forN_cg _ (fun j hj p => ?_)
  have h2 := clr_leN (m := clr m (lw6 m)) (h := lowF m 5 0 + 1 + j) (by omega) (by omega)
  unfold bpS bpW
  rw [h _ (Nat.lt_of_le_of_lt h2 h1.2.2.1)]
theorem prB_at {S : Mem} {H i m : Nat} {g : Nat → Int64} (hH : H ≤ 6) (hi : i < 64) (hm1 : 1 ≤ m) (hm : m ≤ i) : prB S H g i m = bpV S (prB S H g i) H m := by
  rw [prB_fin i m hm]
  obtain ⟨j, rfl⟩ : ∃ j, m = 1 + j := ⟨m - 1, by omega⟩
  rw [show 1 + j = j + 1 by omega, prB_s, show 1 + j = j + 1 by omega, up1_hit]
  exact bpV_ag hH (by omega) (by omega) (fun q hq => by rw [prB_fin j q (by omega), prB_fin i q (by omega)])
/-- what a set's number says -/
def PrC (sh : Nat → Nat → Nat) (P : Nat → Nat) (H : Nat) (B : Nat → Int64) (m : Nat) (dg : Nat → Nat) : Prop := (B m).toInt = (P m : Int) * 117649 - (vl7 dg : Int) ∧ (∀ h, dg h ≤ 6) ∧ (∀ h, h < 6 → ¬ hasP (nI m) h → dg h = 0) ∧ ∀ h, h < 6 → hasP (nI m) h → nI (dg h) + (-1) = pwF sh P H h (m + 1) m
def frP (sh : Nat → Nat → Nat) (P : Nat → Nat) (D : Nat → Nat → Nat) (m k : Nat) : Int := (pbN sh P m k : Int) * 117649 - (vl7 (stD (lw6 m) k (D (nxM m k))) : Int)
def csK (m j k : Nat) : Prop := k = 0 ∨ ∃ g, k = g + 1 ∧ hasP (nI (clr m (lw6 m))) g ∧ g < lw6 m + 1 + j
theorem frP_w {S : Mem} {w : Nat → Int32} {sh : Nat → Nat → Nat} {P : Nat → Nat} {D : Nat → Nat → Nat} {B : Nat → Int64} {H m g : Nat} (hs : ShW w sh) (hS : ∀ h, h < 6 → S 9 h = w (159 + 4 * h + 3)) (hP : ∀ q, q < 64 → P q ≤ 4096) (hm : m < 64) (hm1 : 1 ≤ m) (hg : g < 6) (hq : hasP (nI (clr m (lw6 m))) g) (hC : ∀ q, q < m → PrC sh P H B q (D q)) : (bpW S B (clr m (lw6 m)) (lw6 m) g).toInt = frP sh P D m (g + 1) := by
  have h1 := lw6_ok ⟨m, hm⟩ hm1
  dsimp only at h1
  have hlg := (lw_low ⟨m, hm⟩ hm1 ⟨g, hg⟩).1 hq
  dsimp only at hlg
  have hc := clr_leN (m := clr m (lw6 m)) (h := g) (by omega) hg
  have hc2 : clr (clr m (lw6 m)) g < m := Nat.lt_of_le_of_lt hc h1.2.2.1
  obtain ⟨c1, c2, c3, -⟩ := hC _ hc2
  have z1 : D (clr (clr m (lw6 m)) g) (lw6 m) = 0 := c3 _ h1.1 (fun q => ((clr_hs (by omega) h1.1 h1.1).mp ((clr_hs (by omega) hg h1.1).mp q).1).2 rfl)
  have z2 : D (clr (clr m (lw6 m)) g) g = 0 := c3 _ hg (fun q => ((clr_hs (by omega) hg hg).mp q).2 rfl)
  have hsh := hs (lw6 m) g h1.1 hg
  have hP2 := hP _ (show clr (clr m (lw6 m)) g < 64 by omega)
  have hv := vl_b c2
  have p1 := pd_t h1.1
  have p2 := pd_t hg
  have e1 : (S 9 (lw6 m) &&& S 9 g) = (w (159 + 4 * lw6 m + 3) &&& w (159 + 4 * g + 3)) := by rw [hS _ h1.1, hS _ hg]
  unfold bpW frP
  rw [e1, hsh.1, pbN_g, if_pos hq, show nxM m (g + 1) = clr (clr m (lw6 m)) g from rfl, st_vl1 h1.1 hg hlg z1 z2]
  generalize clr (clr m (lw6 m)) g = q at *
  generalize hl : lw6 m = l at *
  generalize sh l g = u at *
  have q1 := t8_mul (t8_n (k := u) (by omega)) (show (117649 : Int64).toInt = 117649 by decide) (by omega) (by omega)
  have b1 : (g + 1) * pd7 l ≤ 6 * 16807 := Nat.mul_le_mul (by omega) p1.2
  have b2 : (l + 1) * pd7 g ≤ 6 * 16807 := Nat.mul_le_mul (by omega) p2.2
  have n1 : ((g + 1 : Nat) : Int) * (pd7 l : Int) = (((g + 1) * pd7 l : Nat) : Int) := by rw [Int.natCast_mul]
  have n2 : ((l + 1 : Nat) : Int) * (pd7 g : Int) = (((l + 1) * pd7 g : Nat) : Int) := by rw [Int.natCast_mul]
  have q2 := t8_mul (t8_n (k := g + 1) (by omega)) p1.1 (by rw [n1]; omega) (by rw [n1]; omega)
  have q3 := t8_mul (t8_n (k := l + 1) (by omega)) p2.1 (by rw [n2]; omega) (by rw [n2]; omega)
  rw [n1] at q2
  rw [n2] at q3
  generalize (g + 1) * pd7 l = x1 at *
  generalize (l + 1) * pd7 g = x2 at *
  have r1 := t8_add c1 q1 (by omega) (by omega)
  have r2 := t8_sub r1 q2 (by omega) (by omega)
  have r3 := t8_sub r2 q3 (by omega) (by omega)
  rw [r3]
  show _ = ((u + P q : Nat) : Int) * 117649 - ((vl7 (D q) + x2 + x1 : Nat) : Int)
  omega
theorem bp_fold {S : Mem} {w : Nat → Int32} {sh : Nat → Nat → Nat} {P : Nat → Nat} {D : Nat → Nat → Nat} {B : Nat → Int64} {H m : Nat} (hs : ShW w sh) (hS : ∀ h, h < 6 → S 9 h = w (159 + 4 * h + 3)) (hP : ∀ q, q < 64 → P q ≤ 4096) (hm : m < 64) (hm1 : 1 ≤ m) (hC : ∀ q, q < m → PrC sh P H B q (D q)) : ∀ j, lw6 m + 1 + j ≤ 6 → (∃ k, csK m j k ∧ (bpN S B (clr m (lw6 m)) (lw6 m) j).toInt = frP sh P D m k) ∧ ∀ k, csK m j k → frP sh P D m k ≤ (bpN S B (clr m (lw6 m)) (lw6 m) j).toInt
  | 0 => fun _ => by
    have h1 := lw6_ok ⟨m, hm⟩ hm1
    dsimp only at h1
    have e : (bpN S B (clr m (lw6 m)) (lw6 m) 0).toInt = frP sh P D m 0 := by
      show (B (clr m (lw6 m))).toInt = (P (clr m (lw6 m)) : Int) * 117649 - (vl7 (stD (lw6 m) 0 (D (clr m (lw6 m)))) : Int)
      obtain ⟨c1, -, c3, -⟩ := hC _ h1.2.2.1
      rw [st_vl0 h1.1 (c3 _ h1.1 (fun q => ((clr_hs (by omega) h1.1 h1.1).mp q).2 rfl)), c1]
    refine ⟨⟨0, Or.inl rfl, e⟩, fun k hk => ?_⟩
    rcases hk with rfl | ⟨g, rfl, hg, hg2⟩
    · rw [e]; exact Int.le_refl _
    · have := (lw_low ⟨m, hm⟩ hm1 ⟨g, by omega⟩).1 hg
      dsimp only at this
      omega
  | j + 1 => fun hj => by
    obtain ⟨⟨k, k1, k2⟩, k3⟩ := bp_fold hs hS hP hm hm1 hC j (by omega)
    have hst : bpN S B (clr m (lw6 m)) (lw6 m) (j + 1) = bpS S B (clr m (lw6 m)) (lw6 m) (lw6 m + 1 + j) (bpN S B (clr m (lw6 m)) (lw6 m) j) := rfl
    have cs1 : ∀ k, csK m j k → csK m (j + 1) k := fun k hk => by
      rcases hk with e | ⟨g, e, a, b⟩
      · exact Or.inl e
      · exact Or.inr ⟨g, e, a, by omega⟩
    by_cases q : hasP (nI (clr m (lw6 m))) (lw6 m + 1 + j)
    · have e := frP_w hs hS hP hm hm1 (show lw6 m + 1 + j < 6 by omega) q hC
      have e2 : (bpN S B (clr m (lw6 m)) (lw6 m) (j + 1)).toInt = max (frP sh P D m k) (frP sh P D m (lw6 m + 1 + j + 1)) := by
        rw [hst]; unfold bpS; rw [if_pos q]; exact t8_max k2 e
      rw [e2]
      refine ⟨?_, fun k' hk' => ?_⟩
      · by_cases z : frP sh P D m k ≤ frP sh P D m (lw6 m + 1 + j + 1)
        · exact ⟨_, Or.inr ⟨_, rfl, q, by omega⟩, Int.max_eq_right z⟩
        · exact ⟨k, cs1 k k1, Int.max_eq_left (by omega)⟩
      · have hz : csK m j k' ∨ k' = lw6 m + 1 + j + 1 := by
          rcases hk' with e | ⟨g, e, a, b⟩
          · exact Or.inl (Or.inl e)
          · by_cases z : g = lw6 m + 1 + j
            · exact Or.inr (by omega)
            · exact Or.inl (Or.inr ⟨g, e, a, by omega⟩)
        rcases hz with z | z
        · have := k3 k' z; rw [k2] at this; omega
        · rw [z]; omega
    · have e2 : bpN S B (clr m (lw6 m)) (lw6 m) (j + 1) = bpN S B (clr m (lw6 m)) (lw6 m) j := by rw [hst]; unfold bpS; rw [if_neg q]
      rw [e2]
      refine ⟨⟨k, cs1 k k1, k2⟩, fun k' hk' => k3 k' ?_⟩
      rcases hk' with e | ⟨g, e, a, b⟩
      · exact Or.inl e
      · refine Or.inr ⟨g, e, a, ?_⟩
        have : ¬ g = lw6 m + 1 + j := fun z => q (z ▸ a)
        omega
theorem mxN_ge {sh : Nat → Nat → Nat} {P : Nat → Nat} {m k : Nat} : ∀ i, k < i → pbN sh P m k ≤ mxN sh P m i
  | 0 => fun h => absurd h (Nat.not_lt_zero _)
  | i + 1 => fun h => by
    rw [mxN_s]
    by_cases e : k = i
    · rw [e]; exact Nat.le_max_right _ _
    · exact Nat.le_trans (mxN_ge i (by omega)) (Nat.le_max_left _ _)
theorem pr_step {S : Mem} {w : Nat → Int32} {sh : Nat → Nat → Nat} {D : Nat → Nat → Nat} {g : Nat → Int64} {H i m : Nat} (hs : ShW w sh) (hS : ∀ h, h < 6 → S 9 h = w (159 + 4 * h + 3)) (hH : H ≤ 6) (hi : i < 2 ^ H) (hi2 : i ≤ 63) (hm1 : 1 ≤ m) (hm : m ≤ i) (hC : ∀ q, q < m → PrC sh (paN sh H i) H (prB S H g i) q (D q)) : ∃ dg, PrC sh (paN sh H i) H (prB S H g i) m dg := by
  have h1 := lw6_ok ⟨m, by omega⟩ hm1
  dsimp only at h1
  have hP : ∀ q, q < 64 → paN sh H i q ≤ 4096 := fun q hq => by have := paN_b hs hH i hi2 q hq; omega
  obtain ⟨f1, f2, f3⟩ := fk_ok (sh := sh) hH hi2 hm1 hm
  have hlH : lw6 m < H := has_H ⟨H, by omega⟩ ⟨m, by omega⟩ (by show m < 2 ^ H; omega) ⟨lw6 m, h1.1⟩ h1.2.2.2
  generalize hk : fkP sh (paN sh H i) H m = k0 at f1 f2 f3
  have hnx := nx_lt (m := m) (k := k0) (by omega) hm1 (by omega)
  obtain ⟨c1, c2, c3, c4⟩ := hC _ hnx
  obtain ⟨⟨k, k1, k2⟩, k3⟩ := bp_fold (H := H) hs hS hP (show m < 64 by omega) hm1 hC (H - (lw6 m + 1)) (by omega)
  have csb : ∀ k, csK m (H - (lw6 m + 1)) k → k ≤ H ∧ pbP m k := fun k hk => by
    rcases hk with e | ⟨g, e, a, b⟩
    · exact ⟨by omega, Or.inl e⟩
    · exact ⟨by omega, Or.inr (by rw [e]; exact a)⟩
  have cs0 : csK m (H - (lw6 m + 1)) k0 := by
    rcases f2.1 with e | e
    · exact Or.inl e
    · by_cases z : k0 = 0
      · exact Or.inl z
      · exact Or.inr ⟨k0 - 1, by omega, e, by omega⟩
  have hb : ∀ k, k ≤ 6 → pbP m k → ∀ j, stD (lw6 m) k (D (nxM m k)) j ≤ 6 := fun k hk _ => st_b h1.1 hk (hC _ (nx_lt (by omega) hm1 hk)).2.1
  have hz : ∀ k, k ≤ 6 → pbP m k → ∀ j, j < 6 → ¬ hasP (nI m) j → stD (lw6 m) k (D (nxM m k)) j = 0 := fun k hk hp j hj hn => by
    have e1 : ¬ j = lw6 m := fun q => hn (by rw [q]; exact h1.2.2.2)
    have e2 : ¬ k = j + 1 := fun q => by
      rw [q] at hp
      rcases hp with z | z
      · omega
      · exact hn ((clr_hs (by omega) h1.1 hj).mp z).1
    rw [st_o e1 e2]
    refine (hC _ (nx_lt (by omega) hm1 hk)).2.2.1 j hj (fun q => hn ?_)
    cases k with
    | zero => exact ((clr_hs (by omega) h1.1 hj).mp q).1
    | succ g => exact ((clr_hs (by omega) h1.1 hj).mp ((clr_hs (show clr m (lw6 m) < 64 by omega) (by omega) hj).mp q).1).1
  have hle : frP sh (paN sh H i) D m k ≤ frP sh (paN sh H i) D m k0 := by
    obtain ⟨q1, q2⟩ := csb k k1
    have v0 := vl_b (hb k0 (by omega) f2.1)
    by_cases e : k = k0
    · rw [e]; exact Int.le_refl _
    · have hmx : pbN sh (paN sh H i) m k ≤ paN sh H i m := by rw [pa_max hH hi2 hm1 hm]; exact mxN_ge (H + 1) (by omega)
      unfold frP
      rw [f2.2]
      by_cases e2 : pbN sh (paN sh H i) m k = paN sh H i m
      · have hlt : k0 < k := by
          apply Classical.byContradiction
          intro z
          exact f3 k (by omega) ⟨q2, e2⟩
        have := vl_lt (hb k0 (by omega) f2.1) h1.1 (fun j hj => hz k0 (by omega) f2.1 j (by omega) ((lw_low ⟨m, by omega⟩ hm1 ⟨j, by omega⟩).2 hj)) (b := stD (lw6 m) k (D (nxM m k))) (by rw [st_l, st_l]; exact hlt)
        rw [e2]
        omega
      · omega
  have hx : (prB S H g i m).toInt = frP sh (paN sh H i) D m k0 := by
    rw [prB_at hH (by omega) hm1 hm]
    show (bpN S (prB S H g i) (clr m (lw6 m)) (lw6 m) (H - (lw6 m + 1))).toInt = _
    have := k3 k0 cs0
    rw [k2] at this ⊢
    omega
  refine ⟨stD (lw6 m) k0 (D (nxM m k0)), ?_, hb k0 (by omega) f2.1, hz k0 (by omega) f2.1, fun h hh hp => ?_⟩
  · rw [hx]; unfold frP; rw [f2.2]
  · rw [pwF, hk]
    by_cases e : lw6 m = h
    · rw [if_pos e, ← e, st_l]
    · rw [if_neg e]
      by_cases e2 : k0 = h + 1
      · rw [if_pos e2, e2, st_g (fun q => e q.symm), k_m1]
      · rw [if_neg e2, st_o (fun q => e q.symm) e2]
        have hp2 := nx_has (show m < 64 by omega) hm1 (show k0 ≤ 6 by omega) hh hp e e2
        rw [c4 h hh hp2]
        exact pw_fuel hH hi2 hh _ _ _ (by omega) (by omega) (by omega) hp2
theorem pr_all {S : Mem} {w : Nat → Int32} {sh : Nat → Nat → Nat} {g : Nat → Int64} {H i : Nat} (hs : ShW w sh) (hS : ∀ h, h < 6 → S 9 h = w (159 + 4 * h + 3)) (hH : H ≤ 6) (hi : i < 2 ^ H) (hi2 : i ≤ 63) : ∀ m, m ≤ i + 1 → ∃ D : Nat → Nat → Nat, ∀ q, q < m → PrC sh (paN sh H i) H (prB S H g i) q (D q)
  | 0 => fun _ => ⟨fun _ _ => 0, fun q h => absurd h (Nat.not_lt_zero _)⟩
  | m + 1 => fun hm => by
    obtain ⟨D, hD⟩ := pr_all (g := g) hs hS hH hi hi2 m (by omega)
    have hx : ∃ dg, PrC sh (paN sh H i) H (prB S H g i) m dg := by
      by_cases e : m = 0
      · refine ⟨fun _ => 0, ?_, fun _ => Nat.zero_le _, fun _ _ _ => rfl, fun h hh hp => ?_⟩
        · rw [e, prB_fin i 0 (by omega), paN_fin i 0 (by omega)]
          rw [show prB S H g 0 0 = 0 from (show up1 g 0 (0 : Int64) 0 = 0 from up1_hit), show paN sh H 0 0 = 0 from rfl]; decide
        · rw [e] at hp; exact absurd hp (has_0 ⟨h, hh⟩)
      · exact pr_step hs hS hH hi hi2 (by omega) (by omega) hD
    obtain ⟨dg, hdg⟩ := hx
    refine ⟨up1 D m dg, fun q hq => ?_⟩
    by_cases e : q = m
    · rw [e, up1_hit]; exact hdg
    · rw [up1_ne e]; exact hD q (by omega)
theorem pr_sum {x : Int64} {p v : Nat} (h : x.toInt = (p : Int) * 117649 - (v : Int)) (hp : p ≤ 4096) (hv : v ≤ 117648) : (prSum x).toInt = (p : Int) := by
  have a1 := t8_add h (show (117649 : Int64).toInt = 117649 by decide) (by omega) (by omega)
  have a2 := t8_sub a1 (show (1 : Int64).toInt = 1 by decide) (by omega) (by omega)
  have a3 : (x + 117649 - 1).toInt = ((p * 117649 + (117648 - v) : Nat) : Int) := by rw [a2]; omega
  have a4 := t8_div a3 (show (117649 : Int64).toInt = ((117649 : Nat) : Int) by decide) (by omega)
  unfold prSum
  rw [a4]
  omega
theorem pr_v {x : Int64} {p h : Nat} {dg : Nat → Nat} (hx : x.toInt = (p : Int) * 117649 - (vl7 dg : Int)) (hp : p ≤ 4096) (hd : ∀ j, dg j ≤ 6) (hh : h < 6) : prV x h = nI (dg h) + (-1) := by
  have hv := vl_b hd
  have a1 := pr_sum hx hp hv
  have a2 := t8_mul a1 (show (117649 : Int64).toInt = 117649 by decide) (by omega) (by omega)
  have a3 := t8_sub a2 hx (by omega) (by omega)
  have a4 : (prSum x * 117649 - x).toInt = (vl7 dg : Int) := by rw [a3]; omega
  have a5 := t8_div a4 (pd_t hh).1 (by omega)
  have hle : vl7 dg / pd7 h ≤ vl7 dg := Nat.div_le_self _ _
  have a6 := t8_rem a5 (show (7 : Int64).toInt = ((7 : Nat) : Int) by decide) (by omega)
  rw [vl_dg hd hh] at a6
  unfold prV
  rw [t8_32 a6]
  exact Int32.sub_eq_add_neg _ _
theorem bs_le {x : Nat} : ∀ i, bsN x i ≤ i
  | 0 => Nat.le_refl _
  | i + 1 => by
    show bsN x i + (if x.testBit i = true then 1 else 0) ≤ i + 1
    have := bs_le (x := x) i
    split <;> omega
theorem sh_ex (w : Nat → Int32) : ∃ sh, ShW w sh := ⟨fun h g => bsN (tN (w (159 + 4 * h + 3) &&& w (159 + 4 * g + 3))) 32, fun h g _ _ => ⟨pop_eq _, bs_le 32⟩⟩
theorem pr_top {S : Mem} {w : Nat → Int32} {sh : Nat → Nat → Nat} {g : Nat → Int64} {H : Nat} (hs : ShW w sh) (hS : ∀ h, h < 6 → S 9 h = w (159 + 4 * h + 3)) (hH : H ≤ 6) : (prSum (prB S H g (2 ^ H - 1) (2 ^ H - 1))).toInt32 = nI (paN sh H (2 ^ H - 1) (2 ^ H - 1)) ∧ ∀ h, h < H → prV (prB S H g (2 ^ H - 1) (2 ^ H - 1)) h = pwF sh (paN sh H (2 ^ H - 1)) H h (2 ^ H) (2 ^ H - 1) := by
  have h2 := shl7 ⟨H, by omega⟩
  dsimp only at h2
  obtain ⟨D, hD⟩ := pr_all (g := g) (i := 2 ^ H - 1) hs hS hH (by omega) (by omega) (2 ^ H) (by omega)
  obtain ⟨c1, c2, c3, c4⟩ := hD (2 ^ H - 1) (by omega)
  have hb := paN_b hs hH (2 ^ H - 1) (by omega) (2 ^ H - 1) (by omega)
  refine ⟨t8_32 (pr_sum c1 (by omega) (vl_b c2)), fun h hh => ?_⟩
  rw [pr_v c1 (by omega) c2 (by omega), c4 h (by omega) (all_has ⟨H, by omega⟩ ⟨h, by omega⟩ hh), show 2 ^ H - 1 + 1 = 2 ^ H by omega]
