/-! HOW MANY BITS -/
def tN (x : Int32) : Nat := x.toBitVec.toNat
theorem tN_and (x y : Int32) : tN (x &&& y) = tN x &&& tN y := by unfold tN; rw [Int32.toBitVec_and, BitVec.toNat_and]
theorem tN_add (x y : Int32) : tN (x + y) = (tN x + tN y) % 2 ^ 32 := by unfold tN; rw [Int32.toBitVec_add, BitVec.toNat_add]
theorem tN_sub (x y : Int32) : tN (x - y) = (2 ^ 32 - tN y + tN x) % 2 ^ 32 := by unfold tN; rw [Int32.toBitVec_sub, BitVec.toNat_sub]
theorem tN_n (k : Nat) (h : k < 2 ^ 32) : tN (nI k) = k := by
  show (BitVec.ofNat 32 k).toNat = k
  rw [BitVec.toNat_ofNat]; exact Nat.mod_eq_of_lt h
theorem tN_sh (x : Int32) (k : Nat) (hk : k < 32) : tN (jushr x (nI k)) = tN x / 2 ^ k := by
  have e : (jushr x (nI k)).toBitVec = x.toBitVec >>> k := BitVec.eq_of_getLsbD_eq (fun i hi => by
    rw [BitVec.getLsbD_ushiftRight]
    exact b_ushr k hk x i)
  unfold tN
  rw [e, BitVec.toNat_ushiftRight, Nat.shiftRight_eq_div_pow]
theorem tN_lt (x : Int32) : tN x < 2 ^ 32 := x.toBitVec.isLt
theorem tN_eq {x : Int32} {k : Nat} (h : tN x = k) : x = nI k := by
  apply Int32.toBitVec_inj.mp
  apply BitVec.eq_of_toNat_eq
  have h2 : k < 2 ^ 32 := by rw [← h]; exact tN_lt x
  show tN x = tN (nI k)
  rw [h, tN_n k h2]
theorem land_s {a b c e : Nat} (ha : a < 256) (hc : c < 256) : (256 * b + a) &&& (256 * e + c) = 256 * (b &&& e) + (a &&& c) := by
  apply Nat.eq_of_testBit_eq
  intro i
  have h8 : (256 : Nat) = 2 ^ 8 := rfl
  have hac : (a &&& c) < 2 ^ 8 := Nat.and_lt_two_pow a hc
  rw [Nat.testBit_and, h8, Nat.testBit_two_pow_mul_add b ha, Nat.testBit_two_pow_mul_add e hc, Nat.testBit_two_pow_mul_add (b &&& e) hac]
  by_cases q : i < 8
  · rw [if_pos q, if_pos q, if_pos q, Nat.testBit_and]
  · rw [if_neg q, if_neg q, if_neg q, Nat.testBit_and]
def pA8 (v : Nat) : Nat := v - ((v / 2) &&& 85)
def pB8 (v : Nat) : Nat := (pA8 v &&& 51) + ((pA8 v / 4) &&& 51)
def pC8 (v : Nat) : Nat := (pB8 v + pB8 v / 16) &&& 15
def bsN (x : Nat) : Nat → Nat
  | 0 => 0
  | i + 1 => bsN x i + (if x.testBit i = true then 1 else 0)
theorem t_85 : ∀ v : Fin 128, ∀ t : Fin 2, (v.1 + 128 * t.1) &&& 85 = v.1 &&& 85 := by decide +kernel
theorem t_51 : ∀ v : Fin 64, ∀ t : Fin 4, (v.1 + 64 * t.1) &&& 51 = v.1 &&& 51 := by decide +kernel
theorem t_15 : ∀ v : Fin 128, ∀ t : Fin 8, (v.1 + 16 * t.1) &&& 15 = v.1 &&& 15 := by decide +kernel
theorem t_8 : ∀ v : Fin 256, ((v.1 / 2) &&& 85) ≤ v.1 ∧ pA8 v.1 < 256 ∧ pB8 v.1 ≤ 68 ∧ pB8 v.1 / 16 ≤ 4 ∧ pB8 v.1 % 16 ≤ 4 ∧ pC8 v.1 = bsN v.1 8 ∧ pC8 v.1 ≤ 8 := by decide +kernel
theorem s_85 {x y m : Nat} (hx : x < 256) : (256 * y + x) / 2 &&& (256 * m + 85) = 256 * (y / 2 &&& m) + (x / 2 &&& 85) := by
  rw [show (256 * y + x) / 2 = 256 * (y / 2) + (x / 2 + 128 * (y % 2)) by omega, land_s (by omega) (by decide)]
  have := t_85 ⟨x / 2, by omega⟩ ⟨y % 2, by omega⟩
  dsimp only at this
  rw [this]
theorem s_51 {x y m : Nat} (hx : x < 256) : (256 * y + x) / 4 &&& (256 * m + 51) = 256 * (y / 4 &&& m) + (x / 4 &&& 51) := by
  rw [show (256 * y + x) / 4 = 256 * (y / 4) + (x / 4 + 64 * (y % 4)) by omega, land_s (by omega) (by decide)]
  have := t_51 ⟨x / 4, by omega⟩ ⟨y % 4, by omega⟩
  dsimp only at this
  rw [this]
/-- four bytes -/
def b4 (a b c e : Nat) : Nat := 256 * (256 * (256 * e + c) + b) + a
theorem p_A {a b c e : Nat} (ha : a < 256) (hb : b < 256) (hc : c < 256) (he : e < 256) : (b4 a b c e / 2 &&& 1431655765) ≤ b4 a b c e ∧ b4 a b c e - (b4 a b c e / 2 &&& 1431655765) = b4 (pA8 a) (pA8 b) (pA8 c) (pA8 e) := by
  have h : b4 a b c e / 2 &&& 1431655765 = b4 (a / 2 &&& 85) (b / 2 &&& 85) (c / 2 &&& 85) (e / 2 &&& 85) := by
    unfold b4
    rw [show (1431655765 : Nat) = 256 * (256 * (256 * 85 + 85) + 85) + 85 by decide, s_85 ha, s_85 hb, s_85 hc]
  have h1 := (t_8 ⟨a, ha⟩).1
  have h2 := (t_8 ⟨b, hb⟩).1
  have h3 := (t_8 ⟨c, hc⟩).1
  have h4 := (t_8 ⟨e, he⟩).1
  dsimp only at h1 h2 h3 h4
  rw [h]
  unfold b4 pA8
  omega
theorem p_B {a b c e : Nat} (ha : a < 256) (hb : b < 256) (hc : c < 256) (he : e < 256) : (b4 (pA8 a) (pA8 b) (pA8 c) (pA8 e) &&& 858993459) + (b4 (pA8 a) (pA8 b) (pA8 c) (pA8 e) / 4 &&& 858993459) = b4 (pB8 a) (pB8 b) (pB8 c) (pB8 e) := by
  have h1 := (t_8 ⟨a, ha⟩).2.1
  have h2 := (t_8 ⟨b, hb⟩).2.1
  have h3 := (t_8 ⟨c, hc⟩).2.1
  have h4 := (t_8 ⟨e, he⟩).2.1
  dsimp only at h1 h2 h3 h4
  have hm : (858993459 : Nat) = 256 * (256 * (256 * 51 + 51) + 51) + 51 := by decide
  have g1 : b4 (pA8 a) (pA8 b) (pA8 c) (pA8 e) &&& 858993459 = b4 (pA8 a &&& 51) (pA8 b &&& 51) (pA8 c &&& 51) (pA8 e &&& 51) := by
    unfold b4
    rw [hm, land_s h1 (by decide), land_s h2 (by decide), land_s h3 (by decide)]
  have g2 : b4 (pA8 a) (pA8 b) (pA8 c) (pA8 e) / 4 &&& 858993459 = b4 (pA8 a / 4 &&& 51) (pA8 b / 4 &&& 51) (pA8 c / 4 &&& 51) (pA8 e / 4 &&& 51) := by
    unfold b4
    rw [hm, s_51 h1, s_51 h2, s_51 h3]
  rw [g1, g2]
  unfold b4 pB8
  omega
theorem s_15 {x y t : Nat} (hx : x < 128) (ht : t < 8) : 256 * y + (x + 16 * t) &&& 15 = x &&& 15 := by
  have h := land_s (a := x + 16 * t) (b := y) (c := 15) (e := 0) (by omega) (by decide)
  rw [Nat.mul_zero, Nat.zero_add, Nat.and_zero, Nat.mul_zero, Nat.zero_add] at h
  rw [h]
  have := t_15 ⟨x, hx⟩ ⟨t, ht⟩
  dsimp only at this
  exact this
theorem p_C {a b c e : Nat} (ha : a < 256) (hb : b < 256) (hc : c < 256) (he : e < 256) : (b4 (pB8 a) (pB8 b) (pB8 c) (pB8 e) + b4 (pB8 a) (pB8 b) (pB8 c) (pB8 e) / 16) &&& 252645135 = b4 (pC8 a) (pC8 b) (pC8 c) (pC8 e) := by
  obtain ⟨-, -, a1, a2, a3, -, -⟩ := t_8 ⟨a, ha⟩
  obtain ⟨-, -, b1, b2, b3, -, -⟩ := t_8 ⟨b, hb⟩
  obtain ⟨-, -, c1, c2, c3, -, -⟩ := t_8 ⟨c, hc⟩
  obtain ⟨-, -, e1, e2, e3, -, -⟩ := t_8 ⟨e, he⟩
  dsimp only at a1 a2 a3 b1 b2 b3 c1 c2 c3 e1 e2 e3
  have hs : b4 (pB8 a) (pB8 b) (pB8 c) (pB8 e) + b4 (pB8 a) (pB8 b) (pB8 c) (pB8 e) / 16 = 256 * (256 * (256 * (pB8 e + pB8 e / 16) + (pB8 c + pB8 c / 16 + 16 * (pB8 e % 16))) + (pB8 b + pB8 b / 16 + 16 * (pB8 c % 16))) + (pB8 a + pB8 a / 16 + 16 * (pB8 b % 16)) := by
    unfold b4; omega
  have t1 := t_15 ⟨pB8 a + pB8 a / 16, by omega⟩ ⟨pB8 b % 16, by omega⟩
  have t2 := t_15 ⟨pB8 b + pB8 b / 16, by omega⟩ ⟨pB8 c % 16, by omega⟩
  have t3 := t_15 ⟨pB8 c + pB8 c / 16, by omega⟩ ⟨pB8 e % 16, by omega⟩
  dsimp only at t1 t2 t3
  rw [hs, show (252645135 : Nat) = 256 * (256 * (256 * 15 + 15) + 15) + 15 by decide, land_s (by omega) (by decide), land_s (by omega) (by decide), land_s (by omega) (by decide), t1, t2, t3]
  rfl
theorem bs_8 {x y : Nat} (hx : x < 256) : ∀ k, bsN (256 * y + x) (8 + k) = bsN x 8 + bsN y k
  | 0 => by
    have hb : ∀ j, j ≤ 8 → bsN (256 * y + x) j = bsN x j := by
      intro j
      induction j with
      | zero => intro _; rfl
      | succ j ih =>
        intro hj
        show bsN (256 * y + x) j + _ = bsN x j + _
        rw [ih (by omega), show (256 : Nat) = 2 ^ 8 from rfl, Nat.testBit_two_pow_mul_add y hx, if_pos (show j < 8 by omega)]
    exact hb 8 (Nat.le_refl _)
  | k + 1 => by
    show bsN (256 * y + x) (8 + k) + (if (256 * y + x).testBit (8 + k) = true then 1 else 0) = bsN x 8 + (bsN y k + (if y.testBit k = true then 1 else 0))
    have ht : (256 * y + x).testBit (8 + k) = y.testBit k := by
      rw [show (256 : Nat) = 2 ^ 8 from rfl, Nat.testBit_two_pow_mul_add y hx, if_neg (by omega), show 8 + k - 8 = k by omega]
    rw [bs_8 hx k, ht, Nat.add_assoc]
theorem f_sum {a b c e : Nat} (ha : a ≤ 8) (hb : b ≤ 8) (hc : c ≤ 8) (he : e ≤ 8) : (b4 a b c e + b4 a b c e / 256 + (b4 a b c e + b4 a b c e / 256) / 65536) % 2 ^ 32 % 64 = a + b + c + e := by
  have h1 : b4 a b c e / 256 = 65536 * e + 256 * c + b := by unfold b4; omega
  have h2 : b4 a b c e + b4 a b c e / 256 = 16777216 * e + 65536 * (c + e) + 256 * (b + c) + (a + b) := by rw [h1]; unfold b4; omega
  have h3 : (b4 a b c e + b4 a b c e / 256) / 65536 = 256 * e + (c + e) := by rw [h2]; omega
  rw [h3, h2]
  omega
theorem pop_eq (x : Int32) : popC x = nI (bsN (tN x) 32) := by
  obtain ⟨a, b, c, e, ha, hb, hc, he, hx⟩ : ∃ a b c e, a < 256 ∧ b < 256 ∧ c < 256 ∧ e < 256 ∧ tN x = b4 a b c e :=
    ⟨tN x % 256, tN x / 256 % 256, tN x / 65536 % 256, tN x / 16777216, by omega, by omega, by omega, by have := tN_lt x; omega, by unfold b4; omega⟩
  obtain ⟨-, a0, a1, a2, a3, a4, a5⟩ := t_8 ⟨a, ha⟩
  obtain ⟨-, b0, b1, b2, b3, b4', b5⟩ := t_8 ⟨b, hb⟩
  obtain ⟨-, c0, c1, c2, c3, c4, c5⟩ := t_8 ⟨c, hc⟩
  obtain ⟨-, e0, e1, e2, e3, e4, e5⟩ := t_8 ⟨e, he⟩
  dsimp only at a0 a1 a2 a3 a4 a5 b0 b1 b2 b3 b4' b5 c0 c1 c2 c3 c4 c5 e0 e1 e2 e3 e4 e5
  have hbs : bsN (tN x) 32 = pC8 a + pC8 b + pC8 c + pC8 e := by
    rw [hx]
    unfold b4
    rw [show (32 : Nat) = 8 + 24 from rfl, bs_8 ha, show (24 : Nat) = 8 + 16 from rfl, bs_8 hb, show (16 : Nat) = 8 + 8 from rfl, bs_8 hc, ← a4, ← b4', ← c4, ← e4]
    omega
  rw [hbs]
  have hA := p_A ha hb hc he
  have hB := p_B ha hb hc he
  have hC := p_C ha hb hc he
  have lA : b4 (pA8 a) (pA8 b) (pA8 c) (pA8 e) < 2 ^ 32 := by unfold b4; omega
  have lB : b4 (pB8 a) (pB8 b) (pB8 c) (pB8 e) < 2 ^ 31 := by unfold b4; omega
  have e1' : tN (x - (jushr x (nI 1) &&& nI 1431655765)) = b4 (pA8 a) (pA8 b) (pA8 c) (pA8 e) := by
    rw [tN_sub, tN_and, tN_sh x 1 (by decide), tN_n _ (by decide), hx, show (2 : Nat) ^ 1 = 2 from rfl]
    have hl := hA.1
    have : b4 a b c e < 2 ^ 32 := by unfold b4; omega
    rw [← hA.2]
    generalize b4 a b c e / 2 &&& 1431655765 = u at *
    omega
  have e2' : tN ((x - (jushr x (nI 1) &&& nI 1431655765) &&& nI 858993459) + (jushr (x - (jushr x (nI 1) &&& nI 1431655765)) (nI 2) &&& nI 858993459)) = b4 (pB8 a) (pB8 b) (pB8 c) (pB8 e) := by
    rw [tN_add, tN_and, tN_and, tN_sh _ 2 (by decide), tN_n _ (by decide), e1', show (2 : Nat) ^ 2 = 4 from rfl, hB]
    exact Nat.mod_eq_of_lt (by omega)
  generalize hb' : (x - (jushr x (nI 1) &&& nI 1431655765) &&& nI 858993459) + (jushr (x - (jushr x (nI 1) &&& nI 1431655765)) (nI 2) &&& nI 858993459) = B at *
  have e3' : tN (B + jushr B (nI 4) &&& nI 252645135) = b4 (pC8 a) (pC8 b) (pC8 c) (pC8 e) := by
    rw [tN_and, tN_add, tN_sh _ 4 (by decide), tN_n _ (by decide), e2', show (2 : Nat) ^ 4 = 16 from rfl, Nat.mod_eq_of_lt (by omega), hC]
  have hpop : popC x = (B + jushr B (nI 4) &&& nI 252645135) + jushr (B + jushr B (nI 4) &&& nI 252645135) (nI 8) + jushr ((B + jushr B (nI 4) &&& nI 252645135) + jushr (B + jushr B (nI 4) &&& nI 252645135) (nI 8)) (nI 16) &&& nI 63 := by rw [← hb']; rfl
  rw [hpop]
  generalize B + jushr B (nI 4) &&& nI 252645135 = C at *
  have e4' : tN (C + jushr C (nI 8)) = b4 (pC8 a) (pC8 b) (pC8 c) (pC8 e) + b4 (pC8 a) (pC8 b) (pC8 c) (pC8 e) / 256 := by
    rw [tN_add, tN_sh _ 8 (by decide), e3', show (2 : Nat) ^ 8 = 256 from rfl]
    exact Nat.mod_eq_of_lt (by unfold b4; omega)
  apply tN_eq
  rw [tN_and, tN_add, tN_sh _ 16 (by decide), tN_n 63 (by decide), e4', show (63 : Nat) = 2 ^ 6 - 1 from rfl, Nat.and_two_pow_sub_one_eq_mod, show (2 : Nat) ^ 16 = 65536 from rfl]
  exact f_sum a5 b5 c5 e5
