/-! THE CELLS OF THE TWO OBJECTS, by their numbers -/
def nthO {α : Type} : List α → Nat → Option α
  | [], _ => none
  | a :: _, 0 => some a
  | _ :: l, i + 1 => nthO l i
def k0s (j : Nat) : Option (Nat × Nat) := nthO [(2, 0), (50, 25), (50, 25), (50, 25), (50, 25), (50, 25), (50, 6), (50, 6), (50, 6), (50, 6), (3, 0), (50, 300)] j
def k0 (a : Nat) : Option (Nat × Nat) :=
  bif Nat.blt a 37 then (bif Nat.beq a 0 then some (1, 0) else k0s ((a - 1) % 12))
  else bif Nat.blt a 50 then nthO [(54, 12), (50, 400), (4, 0), (5, 0), (6, 0), (50, 12), (50, 12), (50, 13), (50, 400), (8, 0), (50, 25), (50, 25), (55, 16)] (a - 37)
  else bif Nat.blt a 66 then some (50, 25)
  else bif Nat.blt a 71 then nthO [(9, 0), (50, 25), (50, 25), (10, 0), (55, 100)] (a - 66)
  else bif Nat.blt a 171 then some (50, 10)
  else bif Nat.blt a 174 then nthO [(50, 10), (11, 0), (51, 64)] (a - 171)
  else bif Nat.blt a 318 then k0s ((a - 174) % 12)
  else nthO [(12, 0), (50, 2181), (50, 1332), (50, 1332), (50, 483), (50, 5796), (52, 400), (50, 5), (50, 400), (50, 25), (50, 25), (50, 400), (50, 400), (53, 2000), (50, 10), (50, 1664), (53, 6), (50, 64), (51, 6), (51, 1)] (a - 318)
def r0s (b q j : Nat) : Option Nat := match q with
  | 0 => bif Nat.blt j 10 then some (b + 1 + j) else none
  | 10 => bif Nat.beq j 0 then some (b + 11) else none
  | _ => none
def r0 (a j : Nat) : Option Nat :=
  bif Nat.beq a 0 then (match nthO [1, 13, 25, 0, 37, 0, 38, 0, 0, 39, 40, 41, 46, 66, 69, 172] j with
    | some 0 => none
    | x => x)
  else bif Nat.beq a 1 then nthO [2, 3, 4, 5, 6, 7, 8, 9, 10, 11] j
  else bif Nat.beq a 11 then nthO [12] j
  else bif Nat.beq a 13 then nthO [14, 15, 16, 17, 18, 19, 20, 21, 22, 23] j
  else bif Nat.beq a 23 then nthO [24] j
  else bif Nat.beq a 25 then nthO [26, 27, 28, 29, 30, 31, 32, 33, 34, 35] j
  else bif Nat.beq a 35 then nthO [36] j
  else bif Nat.beq a 39 then nthO [38] j
  else bif Nat.beq a 40 then nthO [39, 13] j
  else bif Nat.beq a 41 then nthO [39, 42, 43, 44, 45] j
  else bif Nat.beq a 46 then nthO [47, 48, 49] j
  else bif Nat.beq a 49 then (bif Nat.blt j 16 then some (50 + j) else none)
  else bif Nat.beq a 66 then nthO [67, 68] j
  else bif Nat.beq a 69 then nthO [38, 70, 171] j
  else bif Nat.beq a 70 then (bif Nat.blt j 100 then some (71 + j) else none)
  else bif Nat.beq a 172 then nthO [173] j
  else bif Nat.blt a 174 then none
  else bif Nat.blt a 318 then r0s (a - (a - 174) % 12) ((a - 174) % 12) j
  else bif Nat.beq a 318 then (match nthO [0, 319, 320, 321, 322, 323, 0, 0, 324, 0, 0, 0, 0, 0, 0, 325, 0, 326, 327, 328, 329, 330, 331, 332, 333, 334, 335, 336] j with
    | some 0 => none
    | x => x)
  else none
def TK (K : Nat → Nat × Nat) (R : Nat → Nat → Option Nat) (n : Nat) : Prop := (∀ a k, k0 a = some k → K a = k) ∧ (∀ a j b, r0 a j = some b → R a j = some b) ∧ 338 ≤ n
theorem TK.kk {K : Nat → Nat × Nat} {R : Nat → Nat → Option Nat} {n a : Nat} {k : Nat × Nat} (h : TK K R n) (e : k0 a = some k) : K a = k := h.1 a k e
theorem TK.k1 {K : Nat → Nat × Nat} {R : Nat → Nat → Option Nat} {n a ci w : Nat} (h : TK K R n) (e : k0 a = some (ci, w)) : (K a).1 = ci := by rw [h.1 a _ e]
theorem TK.r {K : Nat → Nat × Nat} {R : Nat → Nat → Option Nat} {n a j b : Nat} (h : TK K R n) (e : r0 a j = some b) : R a j = some b := h.2.1 a j b e
def isSt (b : Nat) : Prop := b ≤ 25 ∧ (b - 1) % 12 = 0 ∧ 1 ≤ b ∨ 174 ≤ b ∧ (b - 174) % 12 = 0 ∧ b < 318
theorem blt_f {x y : Nat} (h : y ≤ x) : Nat.blt x y = false := by
  cases q : Nat.blt x y with
  | false => rfl
  | true => have := Nat.blt_eq.mp q; omega
theorem beq_f {x y : Nat} (h : ¬ x = y) : Nat.beq x y = false := by
  cases q : Nat.beq x y with
  | false => rfl
  | true => exact absurd (Nat.eq_of_beq_eq_true q) h
theorem k0_st {b : Nat} (hb : isSt b) (j : Nat) (hj : j < 12) : k0 (b + j) = k0s j := by
  unfold k0
  rcases hb with ⟨h1, h2, h3⟩ | ⟨h1, h2, h3⟩
  · rw [show Nat.blt (b + j) 37 = true from Nat.blt_eq.mpr (by omega), beq_f (show ¬ b + j = 0 by omega), show (b + j - 1) % 12 = j by omega]; rfl
  · rw [blt_f (show 37 ≤ b + j by omega), blt_f (show 50 ≤ b + j by omega), blt_f (show 66 ≤ b + j by omega), blt_f (show 71 ≤ b + j by omega), blt_f (show 171 ≤ b + j by omega), blt_f (show 174 ≤ b + j by omega), show Nat.blt (b + j) 318 = true from Nat.blt_eq.mpr (by omega), show (b + j - 174) % 12 = j by omega]; rfl
theorem r0_big {b j i : Nat} (h1 : 174 ≤ b) (h2 : (b - 174) % 12 = 0) (h3 : b < 318) (hj : j < 12) : r0 (b + j) i = r0s b j i := by
  unfold r0
  rw [beq_f (show ¬ b + j = 0 by omega), beq_f (show ¬ b + j = 1 by omega), beq_f (show ¬ b + j = 11 by omega), beq_f (show ¬ b + j = 13 by omega), beq_f (show ¬ b + j = 23 by omega), beq_f (show ¬ b + j = 25 by omega), beq_f (show ¬ b + j = 35 by omega), beq_f (show ¬ b + j = 39 by omega), beq_f (show ¬ b + j = 40 by omega), beq_f (show ¬ b + j = 41 by omega), beq_f (show ¬ b + j = 46 by omega), beq_f (show ¬ b + j = 49 by omega), beq_f (show ¬ b + j = 66 by omega), beq_f (show ¬ b + j = 69 by omega), beq_f (show ¬ b + j = 70 by omega), beq_f (show ¬ b + j = 172 by omega), blt_f (show 174 ≤ b + j by omega), show Nat.blt (b + j) 318 = true from Nat.blt_eq.mpr (by omega), show (b + j - 174) % 12 = j by omega, show b + j - j = b by omega]; rfl
theorem r0_st {b : Nat} (hb : isSt b) : (r0 b 0 = some (b + 1) ∧ r0 b 1 = some (b + 2) ∧ r0 b 2 = some (b + 3) ∧ r0 b 3 = some (b + 4) ∧ r0 b 4 = some (b + 5) ∧ r0 b 5 = some (b + 6) ∧ r0 b 6 = some (b + 7) ∧ r0 b 7 = some (b + 8) ∧ r0 b 8 = some (b + 9) ∧ r0 b 9 = some (b + 10)) ∧ r0 (b + 10) 0 = some (b + 11) ∧ r0 b 18 = none := by
  rcases hb with ⟨h1, h2, h3⟩ | ⟨h1, h2, h3⟩
  · have : b = 1 ∨ b = 13 ∨ b = 25 := by omega
    rcases this with rfl | rfl | rfl <;> exact ⟨⟨rfl, rfl, rfl, rfl, rfl, rfl, rfl, rfl, rfl, rfl⟩, rfl, rfl⟩
  · have e : ∀ i, r0 b i = r0s b 0 i := fun i => r0_big (j := 0) h1 h2 h3 (by decide)
    refine ⟨⟨(e 0).trans rfl, (e 1).trans rfl, (e 2).trans rfl, (e 3).trans rfl, (e 4).trans rfl, (e 5).trans rfl, (e 6).trans rfl, (e 7).trans rfl, (e 8).trans rfl, (e 9).trans rfl⟩, (r0_big (j := 10) h1 h2 h3 (by decide)).trans rfl, (e 18).trans rfl⟩
theorem TK.stOf {K : Nat → Nat × Nat} {R : Nat → Nat → Option Nat} {n b : Nat} (h : TK K R n) (hb : isSt b) : StK K R n b := by
  have hk := k0_st hb
  obtain ⟨⟨f0, f1, f2, f3, f4, f5, f6, f7, f8, f9⟩, f10, -⟩ := r0_st hb
  have hbl : b + 12 ≤ 318 := by unfold isSt at hb; omega
  have hn := h.2.2
  have g : ∀ j k, j < 12 → k0s j = some k → K (b + j) = k := fun j k hj e => h.1 _ _ ((hk j hj).trans e)
  exact ⟨by have := g 0 (2, 0) (by decide) rfl; rw [show K b = (2, 0) from this], g 1 _ (by decide) rfl, g 2 _ (by decide) rfl, g 3 _ (by decide) rfl, g 4 _ (by decide) rfl, g 5 _ (by decide) rfl, g 6 _ (by decide) rfl, g 7 _ (by decide) rfl, g 8 _ (by decide) rfl, g 9 _ (by decide) rfl, by have := g 10 (3, 0) (by decide) rfl; rw [this], g 11 _ (by decide) rfl,
    h.2.1 _ _ _ f0, h.2.1 _ _ _ f1, h.2.1 _ _ _ f2, h.2.1 _ _ _ f3, h.2.1 _ _ _ f4, h.2.1 _ _ _ f5, h.2.1 _ _ _ f6, h.2.1 _ _ _ f7, h.2.1 _ _ _ f8, h.2.1 _ _ _ f9, h.2.1 _ _ _ f10, by omega⟩
theorem TK.s1 {K : Nat → Nat × Nat} {R : Nat → Nat → Option Nat} {n : Nat} (h : TK K R n) : StK K R n 1 := h.stOf (by unfold isSt; omega)
theorem TK.s13 {K : Nat → Nat × Nat} {R : Nat → Nat → Option Nat} {n : Nat} (h : TK K R n) : StK K R n 13 := h.stOf (by unfold isSt; omega)
theorem TK.s25 {K : Nat → Nat × Nat} {R : Nat → Nat → Option Nat} {n : Nat} (h : TK K R n) : StK K R n 25 := h.stOf (by unfold isSt; omega)
theorem TK_18 {K : Nat → Nat × Nat} {R : Nat → Nat → Option Nat} {n b : Nat} {v : Option Nat} (h : TK K R n) (hb : isSt b) : TK K (up2 R b 18 v) n := by
  refine ⟨h.1, fun a j x hx => ?_, h.2.2⟩
  have e : ¬ (a = b ∧ j = 18) := fun q => by
    obtain ⟨rfl, rfl⟩ := q
    have := (r0_st hb).2.2
    rw [hx] at this
    cases this
  unfold up2; rw [if_neg e]; exact h.2.1 a j x hx
theorem TK_37 {K : Nat → Nat × Nat} {R R2 : Nat → Nat → Option Nat} {n : Nat} (h : TK K R n) (e : ∀ a, a ≠ 37 → R2 a = R a) : TK K R2 n := by
  refine ⟨h.1, fun a j x hx => ?_, h.2.2⟩
  have ha : a ≠ 37 := fun q => by subst q; cases hx
  rw [e a ha]; exact h.2.1 a j x hx
theorem v1_0 {I : Nat → Nat → Int32} : vw 1 I 0 = I 1 := rfl
theorem v1_1 {I : Nat → Nat → Int32} : vw 1 I 1 = I 2 := rfl
theorem v1_2 {I : Nat → Nat → Int32} : vw 1 I 2 = I 3 := rfl
theorem v1_3 {I : Nat → Nat → Int32} : vw 1 I 3 = I 4 := rfl
theorem v1_4 {I : Nat → Nat → Int32} : vw 1 I 4 = I 5 := rfl
theorem v1_5 {I : Nat → Nat → Int32} : vw 1 I 5 = I 6 := rfl
theorem v1_6 {I : Nat → Nat → Int32} : vw 1 I 6 = I 7 := rfl
theorem v1_7 {I : Nat → Nat → Int32} : vw 1 I 7 = I 8 := rfl
theorem v1_8 {I : Nat → Nat → Int32} : vw 1 I 8 = I 9 := rfl
theorem v1_9 {I : Nat → Nat → Int32} : vw 1 I 9 = I 10 := rfl
theorem v1_10 {I : Nat → Nat → Int32} : vw 1 I 10 = I 11 := rfl
theorem v1_11 {I : Nat → Nat → Int32} : vw 1 I 11 = I 12 := rfl
/-- an exception made -/
def exM (ci : Nat) (t : Lm) : Lm := (up1 (up1 (lmK t) (lmN t) (ci, 0)) (lmN t) (ci, 1), upr (lmI t) (lmN t) (fun _ => 0), upr (lmL t) (lmN t) (fun _ => 0), upr (lmR t) (lmN t) (fun _ => none), lmN t + 1, lmS t + 6)
theorem up1_hit {α : Type} {f : Nat → α} {a : Nat} {v : α} : up1 f a v a = v := by unfold up1; rw [if_pos rfl]
theorem wp_raise {d : Nat} {F : Lf} {pc k1 k2 k3 k4 k5 ci l3 m u3 u4 : Nat} {z1 z2 z3 z4 z5 : Int} {t1 t2 t3 t4 t5 : List Nat} {ls : List Value} {K : Nat → Nat × Nat} {I : Nat → Nat → Int32} {L : Nat → Nat → Int64} {R : Nat → Nat → Option Nat} {n s : Nat} {Q : Lo → Lm → Prop}
    (h1 : lc_at pc F.2.2.2.2.2 = some ((20, 0, k1, z1, t1), 3)) (e1 : F.2.2.2.2.1 k1 = some (60, ci, 6)) (h2 : lc_at (pc + 3) F.2.2.2.2.2 = some ((7, 0, k2, z2, t2), 1)) (h3 : lc_at (pc + 3 + 1) F.2.2.2.2.2 = some ((13, 0, k3, z3, t3), l3)) (e3 : F.2.2.2.2.1 k3 = some (32, m, u3)) (hz : s_zt z3 32 = true)
    (h4 : lc_at (pc + 3 + 1 + l3) F.2.2.2.2.2 = some ((23, 1, k4, z4, t4), 3)) (e4 : F.2.2.2.2.1 k4 = some (52, ci, u4)) (h5 : lc_at (pc + 3 + 1 + l3 + 3) F.2.2.2.2.2 = some ((25, 0, k5, z5, t5), 1)) (hc1 : 14 ≤ ci) (hc2 : ci < 19) (hf : n + 1 ≤ lmCells) (hs : s + 6 ≤ lmSlots) (hh : F.2.2.2.1 = [])
    (kk : Q (.inr n) (exM ci (K, I, L, R, n, s))) : WP d F pc ls [] (K, I, L, R, n, s) Q := by
  refine wp_new h1 e1 hf hs rfl ?_
  refine wp_dup h2 rfl rfl ?_
  refine wp_pool (v := .ref (lmB + m)) h3 e3 hz rfl rfl ?_
  refine wp_exc h4 e4 rfl up1_hit (Nat.lt_succ_self n) (Nat.le_add_right _ _) rfl ?_
  refine wp_throw h5 (Nat.lt_succ_self n) (by rw [up1_hit]; exact hc1) (by rw [up1_hit]; exact hc2) hh ?_
  exact kk
theorem Cont.e {d : Nat} {F : Lf} {pc pc' a : Nat} {ls r : List Value} {Q : Lo → Lm → Prop} {t : Lm} (hh : F.2.2.2.1 = []) (k : Q (.inr a) t) : Cont d F pc pc' ls r Q (.inr a) t := by
  unfold Cont; dsimp only; rw [hh]; exact k
def InR (x : Int32) (k : Nat) : Prop := ∃ c, c < k ∧ x = nI c
theorem InR_neg {x : Int32} {k : Nat} (hk : k < 2 ^ 31) (h : x < nI 0) : ¬ InR x k := fun ⟨c, hc, e⟩ => by subst e; exact absurd h (nI_pos (by omega))
theorem InR_ge {x : Int32} {k : Nat} (hk : k < 2 ^ 31) (h : ¬ x < nI k) : ¬ InR x k := fun ⟨c, hc, e⟩ => by subst e; exact h (nI_lt hc hk)
theorem InR_gt {x : Int32} {k : Nat} (hk : k + 1 < 2 ^ 31) (h : nI k < x) : ¬ InR x (k + 1) := fun ⟨c, hc, e⟩ => by subst e; exact absurd h (nI_nlt (by omega) (by omega))
theorem InR_of {x : Int32} {k : Nat} (hk : k < 2 ^ 31) (h0 : ¬ x < nI 0) (h : x < nI k) : InR x k := by
  obtain ⟨a, ha, rfl⟩ := nI_of (show ¬ x < 0 from h0)
  exact ⟨a, (nI_ltI (by omega) (by omega)).mp h, rfl⟩
theorem InR_le {x : Int32} {k : Nat} (hk : k + 1 < 2 ^ 31) (h0 : ¬ x < nI 0) (h : ¬ nI k < x) : InR x (k + 1) := by
  obtain ⟨a, ha, rfl⟩ := nI_of (show ¬ x < 0 from h0)
  refine ⟨a, ?_, rfl⟩
  by_cases q : k < a
  · exact absurd (nI_lt q (by omega)) h
  · omega

theorem c_needCell {d : Nat} {K : Nat → Nat × Nat} {I : Nat → Nat → Int32} {L : Nat → Nat → Int64} {R : Nat → Nat → Option Nat} {n s : Nat} {Q : Lo → Lm → Prop} {x : Int32} (hf : n + 1 ≤ lmCells) (hs : s + 6 ≤ lmSlots) (kkE : ¬ InR x 25 → Q (.inr n) (exM 16 (K, I, L, R, n, s))) (kk : ∀ c, c < 25 → x = nI c → Q (.inl none) (K, I, L, R, n, s)) : Ok (d + 1) 108 [.int x] (K, I, L, R, n, s) Q := by
  refine Ok.enter (F := F_108) (ls := [.int x]) rfl rfl ?_
  refine wp_iload0 (pc' := 1) rfl rfl ?_
  refine wp_iflt (pc' := 4) rfl rfl ?_ ?_
  · intro h1
    refine wp_raise (pc := 10) rfl rfl rfl rfl rfl rfl rfl rfl rfl (by decide) (by decide) (by omega) (by omega) rfl ?_
    first | exact kkE (InR_neg (by decide) (by first | assumption)) | exact kkE (InR_ge (by decide) (by first | assumption))
  · intro h1
    refine wp_iload0 (pc' := 5) rfl rfl ?_
    refine wp_bipush (v := nI 25) (pc' := 7) rfl rfl rfl ?_
    refine wp_icmplt (pc' := 10) rfl rfl ?_ ?_
    · intro h7
      refine wp_vret rfl rfl ?_
      obtain ⟨c, hc, hx⟩ := InR_of (k := 25) (by decide) (by first | assumption) (by first | assumption)
      exact kk c hc hx
    · intro h7
      refine wp_raise (pc := 10) rfl rfl rfl rfl rfl rfl rfl rfl rfl (by decide) (by decide) (by omega) (by omega) rfl ?_
      first | exact kkE (InR_neg (by decide) (by first | assumption)) | exact kkE (InR_ge (by decide) (by first | assumption))
theorem c_needHearth {d : Nat} {K : Nat → Nat × Nat} {I : Nat → Nat → Int32} {L : Nat → Nat → Int64} {R : Nat → Nat → Option Nat} {n s : Nat} {Q : Lo → Lm → Prop} {x : Int32} {H : Nat} (hT : TK K R n) (hH : I 1 10 = nI H) (hH6 : H ≤ 6) (hf : n + 1 ≤ lmCells) (hs : s + 6 ≤ lmSlots) (kkE : ¬ InR x H → Q (.inr n) (exM 16 (K, I, L, R, n, s))) (kk : ∀ h, h < H → x = nI h → Q (.inl none) (K, I, L, R, n, s)) : Ok (d + 1) 119 [.ref 0, .int x] (K, I, L, R, n, s) Q := by
  refine Ok.enter (F := F_119) (ls := [.ref 0, .int x]) rfl rfl ?_
  refine wp_iload1 (pc' := 1) rfl rfl ?_
  refine wp_iflt (pc' := 4) rfl rfl ?_ ?_
  · intro h1
    refine wp_raise (pc := 15) rfl rfl rfl rfl rfl rfl rfl rfl rfl (by decide) (by decide) (by omega) (by omega) rfl ?_
    first | exact kkE (InR_neg (by omega) (by first | assumption)) | exact kkE (InR_ge (by omega) (by first | assumption))
  · intro h1
    refine wp_iload1 (pc' := 5) rfl rfl ?_
    refine wp_aload0 (pc' := 6) rfl rfl ?_
    refine wp_getRF (pc' := 9) rfl rfl (by first | exact TK.k1 hT rfl | exact TK.kk hT rfl | exact TK.r hT rfl | assumption) (by first | exact TK.k1 hT rfl | exact TK.kk hT rfl | exact TK.r hT rfl | assumption) rfl ?_
    refine wp_getI (pc' := 12) rfl rfl (by first | exact TK.k1 hT rfl | exact TK.kk hT rfl | exact TK.r hT rfl | assumption) rfl ?_
    rw [hH]
    refine wp_icmplt (pc' := 15) rfl rfl ?_ ?_
    · intro h12
      refine wp_vret rfl rfl ?_
      obtain ⟨h, hh, hx⟩ := InR_of (k := H) (by omega) (by first | assumption) (by first | assumption)
      exact kk h hh hx
    · intro h12
      refine wp_raise (pc := 15) rfl rfl rfl rfl rfl rfl rfl rfl rfl (by decide) (by decide) (by omega) (by omega) rfl ?_
      first | exact kkE (InR_neg (by omega) (by first | assumption)) | exact kkE (InR_ge (by omega) (by first | assumption))
theorem c_needDays {d : Nat} {K : Nat → Nat × Nat} {I : Nat → Nat → Int32} {L : Nat → Nat → Int64} {R : Nat → Nat → Option Nat} {n s : Nat} {Q : Lo → Lm → Prop} {x y z : Int32} (hf : n + 1 ≤ lmCells) (hs : s + 6 ≤ lmSlots) (kkE : ¬ (¬ x < y ∧ ¬ z < x) → Q (.inr n) (exM 14 (K, I, L, R, n, s))) (kk : ¬ x < y → ¬ z < x → Q (.inl none) (K, I, L, R, n, s)) : Ok (d + 1) 123 [.int x, .int y, .int z] (K, I, L, R, n, s) Q := by
  refine Ok.enter (F := F_123) (ls := [.int x, .int y, .int z]) rfl rfl ?_
  refine wp_iload0 (pc' := 1) rfl rfl ?_
  refine wp_iload1 (pc' := 2) rfl rfl ?_
  refine wp_icmplt (pc' := 5) rfl rfl ?_ ?_
  · intro h2
    refine wp_raise (pc := 10) rfl rfl rfl rfl rfl rfl rfl rfl rfl (by decide) (by decide) (by omega) (by omega) rfl ?_
    first | exact kkE (fun h => h.1 (by first | assumption)) | exact kkE (fun h => h.2 (by first | assumption))
  · intro h2
    refine wp_iload0 (pc' := 6) rfl rfl ?_
    refine wp_iload2 (pc' := 7) rfl rfl ?_
    refine wp_icmple (pc' := 10) rfl rfl ?_ ?_
    · intro h7
      refine wp_vret rfl rfl ?_
      exact kk (by first | assumption) (by first | assumption)
    · intro h7
      refine wp_raise (pc := 10) rfl rfl rfl rfl rfl rfl rfl rfl rfl (by decide) (by decide) (by omega) (by omega) rfl ?_
      first | exact kkE (fun h => h.1 (by first | assumption)) | exact kkE (fun h => h.2 (by first | assumption))
