/-! THE OBJECT'S METHODS: acts, undoing, the image, the log -/
def EqS (b : Nat) (I S : Mem) : Prop := ∀ k, k < 12 → I (b + k) = S k
def PastI (I : Mem) (R : Nat → Nat → Option Nat) (p : Nat → Nat) (A : Nat) (Ss : Nat → Mem) : Prop :=
  (∀ i, i < 12 → R 37 i = some (p i) ∧ (174 ≤ p i ∧ (p i - 174) % 12 = 0 ∧ p i < 318) ∧ Nrm (vw (p i) I)) ∧ (∀ i j, i < 12 → j < 12 → p i = p j → i = j) ∧ A ≤ 12 ∧ I 0 5 = nI A ∧ (∀ i, i < A → EqS (p i) I (Ss i) ∧ R (p i) 18 = R 1 18)
def Kp (I J : Mem) (R R2 : Nat → Nat → Option Nat) : Prop := (∀ a, a ≠ 0 → (a < 174 ∨ 318 ≤ a) → J a = I a) ∧ (∀ j, j ≠ 5 → J 0 j = I 0 j) ∧ (∀ a, a ≠ 37 → (a < 174 ∨ 318 ≤ a) → R2 a = R a)
def pA (A : Nat) : Nat := if A = 12 then 12 else A + 1
def pS (A : Nat) (Ss : Nat → Mem) (S : Mem) : Nat → Mem := fun i => if A = 12 then (if i < 11 then Ss (i + 1) else S) else (if i < A then Ss i else S)
def rotP (p : Nat → Nat) : Nat → Nat := fun i => if i < 11 then p (i + 1) else p 0
def rotR (R : Nat → Nat → Option Nat) (p : Nat → Nat) (i : Nat) : Nat → Nat → Option Nat := fun a j => if a = 37 ∧ j + 1 < i then some (p (j + 1)) else R a j
theorem rotR_0 {R : Nat → Nat → Option Nat} {p : Nat → Nat} : rotR R p 1 = R := by
  funext a j; unfold rotR; rw [if_neg (by omega)]
theorem rotR_s {R : Nat → Nat → Option Nat} {p : Nat → Nat} {i : Nat} (h : 1 ≤ i) : up2 (rotR R p i) 37 (i - 1) (some (p i)) = rotR R p (i + 1) := by
  funext a j; unfold up2 rotR
  by_cases ha : a = 37
  · by_cases hj : j = i - 1
    · subst hj; rw [if_pos ⟨ha, rfl⟩, if_pos ⟨ha, by omega⟩, show i - 1 + 1 = i by omega]
    · rw [if_neg (fun e => hj e.2)]
      by_cases hl : j + 1 < i
      · rw [if_pos ⟨ha, hl⟩, if_pos ⟨ha, by omega⟩]
      · rw [if_neg (by omega), if_neg (by omega)]
  · rw [if_neg (fun e => ha e.1), if_neg (fun e => ha e.1), if_neg (fun e => ha e.1)]
theorem rotR_hit {R : Nat → Nat → Option Nat} {p : Nat → Nat} {i : Nat} {v : Option Nat} (h : R 37 i = v) : rotR R p i 37 i = v := by
  unfold rotR; rw [if_neg (by omega)]; exact h
theorem rotR_ne {R : Nat → Nat → Option Nat} {p : Nat → Nat} {i a : Nat} (h : a ≠ 37) : rotR R p i a = R a := by
  funext j; unfold rotR; rw [if_neg (fun e => h e.1)]
theorem rotR_fin {R : Nat → Nat → Option Nat} {p : Nat → Nat} {j : Nat} (hj : j < 12) : up2 (rotR R p 12) 37 11 (some (p 0)) 37 j = some (rotP p j) := by
  rw [up2_same]; unfold rotP rotR
  by_cases h : j = 11
  · subst h; rfl
  · rw [if_neg h, if_pos ⟨rfl, by omega⟩, if_pos (by omega)]
theorem rem_core {I : Mem} {R : Nat → Nat → Option Nat} {p : Nat → Nat} {t : Nat} {Ss : Nat → Mem} (ht : t < 12)
    (h1 : ∀ i, i < 12 → R 37 i = some (p i) ∧ (174 ≤ p i ∧ (p i - 174) % 12 = 0 ∧ p i < 318) ∧ Nrm (vw (p i) I)) (h2 : ∀ i j, i < 12 → j < 12 → p i = p j → i = j) (h5 : ∀ i, i < t → EqS (p i) I (Ss i) ∧ R (p i) 18 = R 1 18) (hn : Nrm (vw 1 I)) :
    PastI (up2 (cpS I (p t) 1) 0 5 (nI (t + 1))) (up2 R (p t) 18 (R 1 18)) p (t + 1) (fun i => if i < t then Ss i else vw 1 I) := by
  obtain ⟨-, ⟨b1, b2, b3⟩, -⟩ := h1 t ht
  have hin : ∀ k, k < 12 → up2 (cpS I (p t) 1) 0 5 (nI (t + 1)) (p t + k) = I (1 + k) := fun k hk => by rw [up2_row (by omega), cpS_in hk]
  have hout : ∀ i, i < 12 → i ≠ t → ∀ k, k < 12 → up2 (cpS I (p t) 1) 0 5 (nI (t + 1)) (p i + k) = I (p i + k) := fun i hi hit k hk => by
    obtain ⟨-, ⟨c1, c2, c3⟩, -⟩ := h1 i hi
    have hne : p i ≠ p t := fun e => hit (h2 i t hi ht e)
    rw [up2_row (by omega), cpS_out (by omega)]
  have inK : ∀ k j, 12 ≤ k → inS k j = true := fun k j hk => by
    unfold inS; rw [if_neg (by omega), if_neg (by omega), if_neg (by omega), if_neg (by omega), if_neg (by omega)]
  refine ⟨fun i hi => ?_, h2, by omega, up2_hit, fun i hi => ?_⟩
  · obtain ⟨r1, c, nr⟩ := h1 i hi
    refine ⟨by rw [up2_row (by omega)]; exact r1, c, fun k j hj => ?_⟩
    by_cases hk : k < 12
    · by_cases e : i = t
      · subst e
        show up2 (cpS I (p i) 1) 0 5 (nI (i + 1)) (p i + k) j = _
        rw [hin k hk]; exact hn k j hj
      · show up2 (cpS I (p t) 1) 0 5 (nI (t + 1)) (p i + k) j = _
        rw [hout i hi e k hk]; exact nr k j hj
    · rw [inK k j (by omega)] at hj; cases hj
  · have r1 : up2 R (p t) 18 (R 1 18) 1 18 = R 1 18 := by rw [up2_row (by omega)]
    by_cases e : i = t
    · subst e
      refine ⟨fun k hk => ?_, ?_⟩
      · rw [hin k hk, if_neg (by omega)]; rfl
      · rw [up2_hit, r1]
    · have hlt : i < t := by omega
      obtain ⟨q1, q2⟩ := h5 i hlt
      have hne : p i ≠ p t := fun x => e (h2 i t (by omega) ht x)
      refine ⟨fun k hk => ?_, ?_⟩
      · rw [hout i (by omega) e k hk, if_pos hlt]; exact q1 k hk
      · rw [r1, up2_row hne]; exact q2
theorem rem_kp {I : Mem} {R : Nat → Nat → Option Nat} {b t : Nat} {v : Option Nat} (h1 : 174 ≤ b) (h2 : b + 12 ≤ 318) : Kp I (up2 (cpS I b 1) 0 5 (nI t)) R (up2 R b 18 v) := by
  refine ⟨fun a h0 ha => ?_, fun j hj => ?_, fun a _ ha => ?_⟩
  · rw [up2_row h0, cpS_out (by omega)]
  · rw [up2_same, if_neg hj, cpS_out (by omega)]
  · exact up2_row (by omega)

theorem c_rem_a {d : Nat} {K : Nat → Nat × Nat} {I : Nat → Nat → Int32} {L : Nat → Nat → Int64} {R : Nat → Nat → Option Nat} {n s : Nat} {Q : Lo → Lm → Prop} {p : Nat → Nat} {A : Nat} {Ss : Nat → Mem} (hT : TK K R n) (hP : PastI I R p A Ss) (hr : I 1 14 = 0 ∨ I 1 14 = 1) (hn1 : Nrm (vw 1 I)) (hA : A < 12) (kk : ∀ J R2 p2, TK K R2 n → Kp I J R R2 → PastI J R2 p2 (pA A) (pS A Ss (vw 1 I)) → Q (.inl none) (K, J, L, R2, n, s)) : Ok (d + 3) 124 [.ref 0] (K, I, L, R, n, s) Q := by
  have hb := TK.s1 hT
  obtain ⟨-, -, hn⟩ := id hT
  obtain ⟨h1, h2, h3, h4, h5⟩ := id hP
  obtain ⟨ra, ⟨rb, rc, rd⟩, re⟩ := h1 A hA
  have hs2 := hT.stOf (Or.inr ⟨rb, rc, rd⟩)
  refine Ok.enter (F := F_124) (ls := [.ref 0, lDead, lDead]) rfl rfl ?_
  refine wp_aload0 (pc' := 1) rfl rfl ?_
  refine wp_getI (pc' := 4) rfl rfl (by first | assumption | exact TK.k1 hT rfl | exact TK.kk hT rfl | exact TK.r hT rfl) rfl ?_
  refine wp_bipush (v := nI 12) (pc' := 6) rfl rfl rfl ?_
  rw [h4]
  refine wp_icmpneT rfl (fun e => absurd ((nI_eq (by omega) (by decide)).mp e) (by omega)) ?_
  refine wp_aload0 (pc' := 63) rfl rfl ?_
  refine wp_getRF (pc' := 66) rfl rfl (by first | assumption | exact TK.k1 hT rfl | exact TK.kk hT rfl | exact TK.r hT rfl) (by first | assumption | exact TK.k1 hT rfl | exact TK.kk hT rfl | exact TK.r hT rfl) rfl ?_
  refine wp_aload0 (pc' := 67) rfl rfl ?_
  refine wp_getI (pc' := 70) rfl rfl (by first | assumption | exact TK.k1 hT rfl | exact TK.kk hT rfl | exact TK.r hT rfl) rfl ?_
  first | refine wp_aald A (pc' := 71) rfl (by first | assumption | exact TK.k1 hT rfl | exact TK.kk hT rfl | exact TK.r hT rfl) h4 (by omega) (by first | decide | assumption | omega) (by first | assumption | exact TK.k1 hT rfl | exact TK.kk hT rfl | exact TK.r hT rfl) rfl ?_ | refine wp_rald A (pc' := 71) rfl (by first | assumption | exact TK.k1 hT rfl | exact TK.kk hT rfl | exact TK.r hT rfl) h4 (by omega) (by first | decide | assumption | omega) (by first | assumption | exact TK.k1 hT rfl | exact TK.kk hT rfl | exact TK.r hT rfl) rfl ?_
  refine wp_aload0 (pc' := 72) rfl rfl ?_
  refine wp_getRF (pc' := 75) rfl rfl (by first | assumption | exact TK.k1 hT rfl | exact TK.kk hT rfl | exact TK.r hT rfl) (by first | assumption | exact TK.k1 hT rfl | exact TK.kk hT rfl | exact TK.r hT rfl) rfl ?_
  refine wp_callV2 (pc' := 78) rfl rfl rfl rfl rfl (by first | assumption | exact TK.k1 hT rfl | exact TK.kk hT rfl | exact TK.r hT rfl) rfl rfl ?_
  refine c_copy hs2 hb (Or.inr (by omega)) hr re hn1 ?_
  refine Cont.u ?_
  skip
  refine wp_aload0 (pc' := 79) rfl rfl ?_
  refine wp_dup (pc' := 80) rfl rfl rfl ?_
  refine wp_getI (pc' := 83) rfl rfl (by first | assumption | exact TK.k1 hT rfl | exact TK.kk hT rfl | exact TK.r hT rfl) rfl ?_
  refine wp_iconst (v := nI 1) (pc' := 84) rfl rfl rfl ?_
  first | refine wp_iaddN (pc' := 85) rfl (by with_reducible rfl) (by with_reducible rfl) rfl ?_ | refine wp_iadd (pc' := 85) rfl rfl ?_
  refine wp_putI (pc' := 88) rfl rfl (by first | assumption | exact TK.k1 hT rfl | exact TK.kk hT rfl | exact TK.r hT rfl) (by omega) rfl ?_
  refine wp_vret rfl rfl ?_
  rw [show cpS I (p A) 1 0 = I 0 from cpS_out (by omega), h4, nI_add]
  refine kk _ _ p (TK_18 hT (Or.inr ⟨rb, rc, rd⟩)) (rem_kp rb (by omega)) ?_
  rw [show pA A = A + 1 from if_neg (by omega), show pS A Ss (vw 1 I) = (fun i => if i < A then Ss i else vw 1 I) from by funext i; unfold pS; rw [if_neg (by omega)]]
  exact rem_core hA h1 h2 h5 hn1
theorem c_rem_b {d : Nat} {K : Nat → Nat × Nat} {I : Nat → Nat → Int32} {L : Nat → Nat → Int64} {R : Nat → Nat → Option Nat} {n s : Nat} {Q : Lo → Lm → Prop} {p : Nat → Nat} {A : Nat} {Ss : Nat → Mem} (hT : TK K R n) (hP : PastI I R p A Ss) (hr : I 1 14 = 0 ∨ I 1 14 = 1) (hn1 : Nrm (vw 1 I)) (hA : A = 12) (kk : ∀ J R2 p2, TK K R2 n → Kp I J R R2 → PastI J R2 p2 (pA A) (pS A Ss (vw 1 I)) → Q (.inl none) (K, J, L, R2, n, s)) : Ok (d + 3) 124 [.ref 0] (K, I, L, R, n, s) Q := by
  have hb := TK.s1 hT
  obtain ⟨-, -, hn⟩ := id hT
  obtain ⟨h1, h2, h3, h4, h5⟩ := id hP
  subst hA
  obtain ⟨ra, ⟨rb, rc, rd⟩, re⟩ := h1 0 (by decide)
  obtain ⟨k0b, -⟩ := hT.stOf (Or.inr ⟨rb, rc, rd⟩)
  refine Ok.enter (F := F_124) (ls := [.ref 0, lDead, lDead]) rfl rfl ?_
  refine wp_aload0 (pc' := 1) rfl rfl ?_
  refine wp_getI (pc' := 4) rfl rfl (by first | assumption | exact TK.k1 hT rfl | exact TK.kk hT rfl | exact TK.r hT rfl) rfl ?_
  refine wp_bipush (v := nI 12) (pc' := 6) rfl rfl rfl ?_
  rw [h4]
  refine wp_icmpneF (pc' := 9) rfl rfl rfl ?_
  refine wp_aload0 (pc' := 10) rfl rfl ?_
  refine wp_getRF (pc' := 13) rfl rfl (by first | assumption | exact TK.k1 hT rfl | exact TK.kk hT rfl | exact TK.r hT rfl) (by first | assumption | exact TK.k1 hT rfl | exact TK.kk hT rfl | exact TK.r hT rfl) rfl ?_
  refine wp_iconst (v := nI 0) (pc' := 14) rfl rfl rfl ?_
  first | refine wp_aald _ (pc' := 15) rfl (by first | assumption | exact TK.k1 hT rfl | exact TK.kk hT rfl | exact TK.r hT rfl) (by with_reducible rfl) (by omega) (by first | decide | assumption | omega) (by first | assumption | exact TK.k1 hT rfl | exact TK.kk hT rfl | exact TK.r hT rfl) rfl ?_ | refine wp_rald _ (pc' := 15) rfl (by first | assumption | exact TK.k1 hT rfl | exact TK.kk hT rfl | exact TK.r hT rfl) (by with_reducible rfl) (by omega) (by first | decide | assumption | omega) (by first | assumption | exact TK.k1 hT rfl | exact TK.kk hT rfl | exact TK.r hT rfl) rfl ?_
  refine wp_astore1 (pc' := 16) rfl (by first | rfl | assumption) rfl ?_
  refine wp_iconst (v := nI 1) (pc' := 17) rfl rfl rfl ?_
  refine wp_istore2 (pc' := 18) rfl (by first | rfl | assumption) rfl ?_
  have lp18 : ∀ r (i : Nat), i + r = 12 → 1 ≤ i → WP (d + 2) F_124 18 [.ref 0, .ref (p 0), .int (nI i)] [] (K, I, L, rotR R p i, n, s) Q := by
    intro r; induction r with
    | zero =>
      intro i hi hv0
      have hi2 : i = 12 := by omega
      subst hi2
      refine wp_iload2 (pc' := 19) rfl rfl ?_
      refine wp_bipush (v := nI 12) (pc' := 21) rfl rfl rfl ?_
      refine wp_icmpgeT rfl (nI_nlt (by omega) (by omega)) ?_
      refine wp_aload0 (pc' := 45) rfl rfl ?_
      refine wp_getRF (pc' := 48) rfl rfl (by first | assumption | exact TK.k1 hT rfl | exact TK.kk hT rfl | exact TK.r hT rfl) (by first | assumption | exact TK.k1 hT rfl | exact TK.kk hT rfl | exact TK.r hT rfl) rfl ?_
      refine wp_bipush (v := nI 11) (pc' := 50) rfl rfl rfl ?_
      refine wp_aload1 (pc' := 51) rfl rfl ?_
      refine wp_aast _ (pc' := 52) rfl (by first | assumption | exact TK.k1 hT rfl | exact TK.kk hT rfl | exact TK.r hT rfl) (by omega) (by first | assumption | exact TK.k1 hT rfl | exact TK.kk hT rfl | exact TK.r hT rfl) (by omega) (by with_reducible rfl) (by omega) (by first | decide | assumption | omega) rfl ?_
      refine wp_aload0 (pc' := 53) rfl rfl ?_
      refine wp_dup (pc' := 54) rfl rfl rfl ?_
      refine wp_getI (pc' := 57) rfl rfl (by first | assumption | exact TK.k1 hT rfl | exact TK.kk hT rfl | exact TK.r hT rfl) rfl ?_
      refine wp_iconst (v := nI 1) (pc' := 58) rfl rfl rfl ?_
      first | refine wp_isubN (pc' := 59) rfl (by with_reducible rfl) (by with_reducible rfl) (by omega) rfl ?_ | refine wp_isub (pc' := 59) rfl rfl ?_
      refine wp_putI (pc' := 62) rfl rfl (by first | assumption | exact TK.k1 hT rfl | exact TK.kk hT rfl | exact TK.r hT rfl) (by omega) rfl ?_
      skip
      refine wp_aload0 (pc' := 63) rfl rfl ?_
      refine wp_getRF (pc' := 66) rfl rfl (by first | assumption | exact TK.k1 hT rfl | exact TK.kk hT rfl | exact TK.r hT rfl) (by first | assumption | exact TK.k1 hT rfl | exact TK.kk hT rfl | exact TK.r hT rfl) rfl ?_
      refine wp_aload0 (pc' := 67) rfl rfl ?_
      refine wp_getI (pc' := 70) rfl rfl (by first | assumption | exact TK.k1 hT rfl | exact TK.kk hT rfl | exact TK.r hT rfl) rfl ?_
      first | refine wp_aald _ (pc' := 71) rfl (by first | assumption | exact TK.k1 hT rfl | exact TK.kk hT rfl | exact TK.r hT rfl) (by with_reducible rfl) (by omega) (by first | decide | assumption | omega) (by first | assumption | exact TK.k1 hT rfl | exact TK.kk hT rfl | exact TK.r hT rfl) rfl ?_ | refine wp_rald _ (pc' := 71) rfl (by first | assumption | exact TK.k1 hT rfl | exact TK.kk hT rfl | exact TK.r hT rfl) (by with_reducible rfl) (by omega) (by first | decide | assumption | omega) (by first | assumption | exact TK.k1 hT rfl | exact TK.kk hT rfl | exact TK.r hT rfl) rfl ?_
      refine wp_aload0 (pc' := 72) rfl rfl ?_
      refine wp_getRF (pc' := 75) rfl rfl (by first | assumption | exact TK.k1 hT rfl | exact TK.kk hT rfl | exact TK.r hT rfl) (by first | assumption | exact TK.k1 hT rfl | exact TK.kk hT rfl | exact TK.r hT rfl) rfl ?_
      refine wp_callV2 (pc' := 78) rfl rfl rfl rfl rfl (by first | assumption | exact TK.k1 hT rfl | exact TK.kk hT rfl | exact TK.r hT rfl) rfl rfl ?_
      refine c_copy (hT2.stOf (Or.inr ⟨rb, rc, rd⟩)) hb (Or.inr (by omega)) hr re hn1 ?_
      refine Cont.u ?_
      refine wp_aload0 (pc' := 79) rfl rfl ?_
      refine wp_dup (pc' := 80) rfl rfl rfl ?_
      refine wp_getI (pc' := 83) rfl rfl (by first | assumption | exact TK.k1 hT rfl | exact TK.kk hT rfl | exact TK.r hT rfl) rfl ?_
      refine wp_iconst (v := nI 1) (pc' := 84) rfl rfl rfl ?_
      first | refine wp_iaddN (pc' := 85) rfl (by with_reducible rfl) (by with_reducible rfl) rfl ?_ | refine wp_iadd (pc' := 85) rfl rfl ?_
      refine wp_putI (pc' := 88) rfl rfl (by first | assumption | exact TK.k1 hT rfl | exact TK.kk hT rfl | exact TK.r hT rfl) (by omega) rfl ?_
      refine wp_vret rfl rfl ?_
      skip
    | succ r ih =>
      intro i hi hv0
      have hlt : i < 12 := by omega
      refine wp_iload2 (pc' := 19) rfl rfl ?_
      refine wp_bipush (v := nI 12) (pc' := 21) rfl rfl rfl ?_
      refine wp_icmpgeF (pc' := 24) rfl (nI_lt (by omega) (by omega)) rfl ?_
      obtain ⟨ri, ⟨ci1, ci2, ci3⟩, -⟩ := h1 i (by omega)
      obtain ⟨di, -⟩ := hT.stOf (Or.inr ⟨ci1, ci2, ci3⟩)
      have ri2 := rotR_hit (p := p) ri
      refine wp_aload0 (pc' := 25) rfl rfl ?_
      refine wp_getRF (pc' := 28) rfl rfl (by first | assumption | exact TK.k1 hT rfl | exact TK.kk hT rfl | exact TK.r hT rfl) (by first | assumption | exact TK.k1 hT rfl | exact TK.kk hT rfl | exact TK.r hT rfl) rfl ?_
      refine wp_iload2 (pc' := 29) rfl rfl ?_
      refine wp_iconst (v := nI 1) (pc' := 30) rfl rfl rfl ?_
      first | refine wp_isubN (pc' := 31) rfl (by with_reducible rfl) (by with_reducible rfl) (by omega) rfl ?_ | refine wp_isub (pc' := 31) rfl rfl ?_
      refine wp_aload0 (pc' := 32) rfl rfl ?_
      refine wp_getRF (pc' := 35) rfl rfl (by first | assumption | exact TK.k1 hT rfl | exact TK.kk hT rfl | exact TK.r hT rfl) (by first | assumption | exact TK.k1 hT rfl | exact TK.kk hT rfl | exact TK.r hT rfl) rfl ?_
      refine wp_iload2 (pc' := 36) rfl rfl ?_
      first | refine wp_aald _ (pc' := 37) rfl (by first | assumption | exact TK.k1 hT rfl | exact TK.kk hT rfl | exact TK.r hT rfl) (by with_reducible rfl) (by omega) (by first | decide | assumption | omega) (by first | assumption | exact TK.k1 hT rfl | exact TK.kk hT rfl | exact TK.r hT rfl) rfl ?_ | refine wp_rald _ (pc' := 37) rfl (by first | assumption | exact TK.k1 hT rfl | exact TK.kk hT rfl | exact TK.r hT rfl) (by with_reducible rfl) (by omega) (by first | decide | assumption | omega) (by first | assumption | exact TK.k1 hT rfl | exact TK.kk hT rfl | exact TK.r hT rfl) rfl ?_
      refine wp_aast _ (pc' := 38) rfl (by first | assumption | exact TK.k1 hT rfl | exact TK.kk hT rfl | exact TK.r hT rfl) (by omega) (by first | assumption | exact TK.k1 hT rfl | exact TK.kk hT rfl | exact TK.r hT rfl) (by omega) (by with_reducible rfl) (by omega) (by first | decide | assumption | omega) rfl ?_
      first | refine wp_iinc2 (w := nI 1) (pc' := 41) rfl rfl rfl (by with_reducible exact nI_add _ _) rfl ?_ | refine wp_iinc2 (w := nI 1) (pc' := 41) rfl rfl rfl rfl rfl ?_
      refine wp_goto rfl ?_
      exact WP.cg (ih (i + 1) (by omega) (by omega)) (lC1 (lC1 (lI1 (by first | rfl | (simp only [forN, *, ↓reduceIte]; done) | (simp_all [forN]; done)) rfl))) rfl (by rw [rotR_s hv0])
  exact WP.cg (lp18 (12 - 1) (1) (by omega) (by decide)) (lC1 (lC1 (lI1 (by first | rfl | (simp only [forN, *, ↓reduceIte]; done) | (simp_all [forN]; done)) rfl))) rfl (by rw [rotR_0])
