/-! THE OBJECT'S METHODS: acts, undoing, the image, the log -/
def EqS (b : Nat) (I S : Mem) : Prop := ∀ k, k < 12 → I (b + k) = S k
def PastI (I : Mem) (R : Nat → Nat → Option Nat) (p : Nat → Nat) (A : Nat) (Ss : Nat → Mem) : Prop :=
  (∀ i, i < 12 → R 37 i = some (p i) ∧ (174 ≤ p i ∧ (p i - 174) % 12 = 0 ∧ p i < 318) ∧ Nrm (vw (p i) I)) ∧ (∀ i j, i < 12 → j < 12 → p i = p j → i = j) ∧ A ≤ 12 ∧ I 0 5 = nI A ∧ (∀ i, i < A → EqS (p i) I (Ss i) ∧ R (p i) 18 = R 1 18)
def Kp (I J : Mem) (R R2 : Nat → Nat → Option Nat) : Prop := (∀ a, a ≠ 0 → (a < 174 ∨ 318 ≤ a) → J a = I a) ∧ (∀ j, j ≠ 5 → J 0 j = I 0 j) ∧ (∀ a, a ≠ 37 → (a < 174 ∨ 318 ≤ a) → R2 a = R a)
def pA (A : Nat) : Nat := if A = 12 then 12 else A + 1
def pS (A : Nat) (Ss : Nat → Mem) (S : Mem) : Nat → Mem := fun i => if A = 12 then (if i < 11 then Ss (i + 1) else S) else (if i < A then Ss i else S)
def rotP (p : Nat → Nat) : Nat → Nat := fun i => if i < 11 then p (i + 1) else p 0
def rotR (R : Nat → Nat → Option Nat) (p : Nat → Nat) (i : Nat) : Nat → Nat → Option Nat := fun a j => if a = 37 ∧ j + 1 < i then some (p (j + 1)) else R a j
theorem rotR_0 {R : Nat → Nat → Option Nat} {p : Nat → Nat} : rotR R p 1 = R := by
  funext a j; unfold rotR; rw [if_neg (by omega)]
theorem rotR_s {R : Nat → Nat → Option Nat} {p : Nat → Nat} {i : Nat} (h : 1 ≤ i) : up2 (rotR R p i) 37 (i - 1) (some (p i)) = rotR R p (i + 1) := by
  funext a j; unfold up2 rotR
  by_cases ha : a = 37
  · by_cases hj : j = i - 1
    · subst hj; rw [if_pos ⟨ha, rfl⟩, if_pos ⟨ha, by omega⟩, show i - 1 + 1 = i by omega]
    · rw [if_neg (fun e => hj e.2)]
      by_cases hl : j + 1 < i
      · rw [if_pos ⟨ha, hl⟩, if_pos ⟨ha, by omega⟩]
      · rw [if_neg (by omega), if_neg (by omega)]
  · rw [if_neg (fun e => ha e.1), if_neg (fun e => ha e.1), if_neg (fun e => ha e.1)]
theorem rotR_hit {R : Nat → Nat → Option Nat} {p : Nat → Nat} {i : Nat} {v : Option Nat} (h : R 37 i = v) : rotR R p i 37 i = v := by
  unfold rotR; rw [if_neg (by omega)]; exact h
theorem rotR_ne {R : Nat → Nat → Option Nat} {p : Nat → Nat} {i a : Nat} (h : a ≠ 37) : rotR R p i a = R a := by
  funext j; unfold rotR; rw [if_neg (fun e => h e.1)]
theorem rotR_fin {R : Nat → Nat → Option Nat} {p : Nat → Nat} {j : Nat} (hj : j < 12) : up2 (rotR R p 12) 37 11 (some (p 0)) 37 j = some (rotP p j) := by
  rw [up2_same]; unfold rotP rotR
  by_cases h : j = 11
  · subst h; rfl
  · rw [if_neg h, if_pos ⟨rfl, by omega⟩, if_pos (by omega)]
theorem rem_core {I : Mem} {R : Nat → Nat → Option Nat} {p : Nat → Nat} {t : Nat} {Ss : Nat → Mem} (ht : t < 12)
    (h1 : ∀ i, i < 12 → R 37 i = some (p i) ∧ (174 ≤ p i ∧ (p i - 174) % 12 = 0 ∧ p i < 318) ∧ Nrm (vw (p i) I)) (h2 : ∀ i j, i < 12 → j < 12 → p i = p j → i = j) (h5 : ∀ i, i < t → EqS (p i) I (Ss i) ∧ R (p i) 18 = R 1 18) (hn : Nrm (vw 1 I)) :
    PastI (up2 (cpS I (p t) 1) 0 5 (nI (t + 1))) (up2 R (p t) 18 (R 1 18)) p (t + 1) (fun i => if i < t then Ss i else vw 1 I) := by
  obtain ⟨-, ⟨b1, b2, b3⟩, -⟩ := h1 t ht
  have hin : ∀ k, k < 12 → up2 (cpS I (p t) 1) 0 5 (nI (t + 1)) (p t + k) = I (1 + k) := fun k hk => by rw [up2_row (by omega), cpS_in hk]
  have hout : ∀ i, i < 12 → i ≠ t → ∀ k, k < 12 → up2 (cpS I (p t) 1) 0 5 (nI (t + 1)) (p i + k) = I (p i + k) := fun i hi hit k hk => by
    obtain ⟨-, ⟨c1, c2, c3⟩, -⟩ := h1 i hi
    have hne : p i ≠ p t := fun e => hit (h2 i t hi ht e)
    rw [up2_row (by omega), cpS_out (by omega)]
  have inK : ∀ k j, 12 ≤ k → inS k j = true := fun k j hk => by
    unfold inS; rw [if_neg (by omega), if_neg (by omega), if_neg (by omega), if_neg (by omega), if_neg (by omega)]
  refine ⟨fun i hi => ?_, h2, by omega, up2_hit, fun i hi => ?_⟩
  · obtain ⟨r1, c, nr⟩ := h1 i hi
    refine ⟨by rw [up2_row (by omega)]; exact r1, c, fun k j hj => ?_⟩
    by_cases hk : k < 12
    · by_cases e : i = t
      · subst e
        show up2 (cpS I (p i) 1) 0 5 (nI (i + 1)) (p i + k) j = _
        rw [hin k hk]; exact hn k j hj
      · show up2 (cpS I (p t) 1) 0 5 (nI (t + 1)) (p i + k) j = _
        rw [hout i hi e k hk]; exact nr k j hj
    · rw [inK k j (by omega)] at hj; cases hj
  · have r1 : up2 R (p t) 18 (R 1 18) 1 18 = R 1 18 := by rw [up2_row (by omega)]
    by_cases e : i = t
    · subst e
      refine ⟨fun k hk => ?_, ?_⟩
      · show _ = (if i < i then Ss i else vw 1 I) k
        rw [hin k hk, if_neg (by omega)]; rfl
      · rw [up2_hit, r1]
    · have hlt : i < t := by omega
      obtain ⟨q1, q2⟩ := h5 i hlt
      have hne : p i ≠ p t := fun x => e (h2 i t (by omega) ht x)
      refine ⟨fun k hk => ?_, ?_⟩
      · show _ = (if i < t then Ss i else vw 1 I) k
        rw [hout i (by omega) e k hk, if_pos hlt]; exact q1 k hk
      · rw [r1, up2_row hne]; exact q2
theorem nrm_05 {I : Mem} {b : Nat} {v : Int32} (h : Nrm (vw b I)) (hb : 0 < b) : Nrm (vw b (up2 I 0 5 v)) := fun k j hj => by
  show up2 I 0 5 v (b + k) j = _
  rw [up2_row (by omega)]; exact h k j hj
theorem rem_same {I : Mem} {b : Nat} {u v : Int32} (h : 0 < b) : up2 (cpS (up2 I 0 5 u) b 1) 0 5 v = up2 (cpS I b 1) 0 5 v := by
  funext a j
  by_cases ha : a = 0
  · subst ha
    rw [up2_same, up2_same, cpS_out (by omega), cpS_out (by omega), up2_same]
    by_cases hj : j = 5
    · rw [if_pos hj, if_pos hj]
    · rw [if_neg hj, if_neg hj, if_neg hj]
  · rw [up2_row ha, up2_row ha]
    unfold cpS
    by_cases hc : b ≤ a ∧ a < b + 12
    · rw [if_pos hc, if_pos hc, up2_row (by omega)]
    · rw [if_neg hc, if_neg hc, up2_row ha]
theorem rem_b {I : Mem} {R : Nat → Nat → Option Nat} {p : Nat → Nat} {Ss : Nat → Mem} (hP : PastI I R p 12 Ss) (hn : Nrm (vw 1 I)) :
    PastI (up2 (cpS I (p 0) 1) 0 5 (nI (11 + 1))) (up2 (up2 (rotR R p 12) 37 11 (some (p 0))) (p 0) 18 (R 1 18)) (rotP p) (11 + 1) (fun i => if i < 11 then Ss (i + 1) else vw 1 I) := by
  obtain ⟨h1, h2, -, -, h5⟩ := hP
  have e11 : rotP p 11 = p 0 := rfl
  have r1 : up2 (rotR R p 12) 37 11 (some (p 0)) 1 18 = R 1 18 := by rw [up2_row (by decide), rotR_ne (by decide)]
  have := rem_core (I := I) (R := up2 (rotR R p 12) 37 11 (some (p 0))) (p := rotP p) (t := 11) (Ss := fun i => Ss (i + 1)) (by decide)
    (fun i hi => by
      refine ⟨rotR_fin hi, ?_⟩
      unfold rotP
      by_cases h : i < 11
      · rw [if_pos h]; exact (h1 (i + 1) (by omega)).2
      · rw [if_neg h]; exact (h1 0 (by decide)).2)
    (fun i j hi hj e => by
      unfold rotP at e
      by_cases h : i < 11
      · by_cases g : j < 11
        · rw [if_pos h, if_pos g] at e; have := h2 _ _ (by omega) (by omega) e; omega
        · rw [if_pos h, if_neg g] at e; have := h2 _ _ (by omega) (by omega) e; omega
      · by_cases g : j < 11
        · rw [if_neg h, if_pos g] at e; have := h2 _ _ (by omega) (by omega) e; omega
        · omega)
    (fun i hi => by
      have q : rotP p i = p (i + 1) := if_pos hi
      obtain ⟨g1, g2⟩ := h5 (i + 1) (by omega)
      obtain ⟨-, ⟨c1, -, -⟩, -⟩ := h1 (i + 1) (by omega)
      rw [q, r1]
      exact ⟨g1, by rw [up2_row (by omega), rotR_ne (by omega)]; exact g2⟩) hn
  rw [e11, r1] at this
  exact this
theorem rem_kp2 {I : Mem} {R : Nat → Nat → Option Nat} {p : Nat → Nat} {b t : Nat} {v : Option Nat} (h1 : 174 ≤ b) (h2 : b + 12 ≤ 318) : Kp I (up2 (cpS I b 1) 0 5 (nI t)) R (up2 (up2 (rotR R p 12) 37 11 (some (p 0))) b 18 v) := by
  refine ⟨fun a h0 ha => ?_, fun j hj => ?_, fun a h37 ha => ?_⟩
  · rw [up2_row h0, cpS_out (by omega)]
  · rw [up2_same, if_neg hj, cpS_out (by omega)]
  · rw [up2_row (by omega), up2_row h37, rotR_ne h37]
theorem rem_kp {I : Mem} {R : Nat → Nat → Option Nat} {b t : Nat} {v : Option Nat} (h1 : 174 ≤ b) (h2 : b + 12 ≤ 318) : Kp I (up2 (cpS I b 1) 0 5 (nI t)) R (up2 R b 18 v) := by
  refine ⟨fun a h0 ha => ?_, fun j hj => ?_, fun a _ ha => ?_⟩
  · rw [up2_row h0, cpS_out (by omega)]
  · rw [up2_same, if_neg hj, cpS_out (by omega)]
  · exact up2_row (by omega)
def rightV (b : Prop) [Decidable b] (w : Int32) (c : Nat) : Int32 := if (if hasP w c then nI 1 else nI 0) = (if b then nI 1 else nI 0) then nI 0 else nI 1
def rightM (J : Mem) (h c : Nat) (b : Prop) [Decidable b] : Mem := up2 J 10 h (if b then J 10 h ||| jshl (nI 1) (nI c) else J 10 h &&& (jshl (nI 1) (nI c) ^^^ (-1)))
def footP (S : Mem) (c : Nat) : Prop := ¬ S 3 c = nI 0 ∧ S 5 c < nI 2 ∧ ¬ S 4 c < (if S 5 c = nI 0 then nI 30 else nI 50)

theorem c_rem_a {d : Nat} {K : Nat → Nat × Nat} {I : Nat → Nat → Int32} {L : Nat → Nat → Int64} {R : Nat → Nat → Option Nat} {n s : Nat} {Q : Lo → Lm → Prop} {p : Nat → Nat} {A : Nat} {Ss : Nat → Mem} (hT : TK K R n) (hP : PastI I R p A Ss) (hr : I 1 14 = 0 ∨ I 1 14 = 1) (hn1 : Nrm (vw 1 I)) (hA : A < 12) (kk : ∀ J R2 p2, TK K R2 n → Kp I J R R2 → PastI J R2 p2 (pA A) (pS A Ss (vw 1 I)) → Q (.inl none) (K, J, L, R2, n, s)) : Ok (d + 3) 124 [.ref 0] (K, I, L, R, n, s) Q := by
  have hb := TK.s1 hT
  obtain ⟨-, -, hn⟩ := id hT
  obtain ⟨h1, h2, h3, h4, h5⟩ := id hP
  obtain ⟨ra, ⟨rb, rc, rd⟩, re⟩ := h1 A hA
  have hs2 := hT.stOf (Or.inr ⟨rb, rc, rd⟩)
  refine Ok.enter (F := F_124) (ls := [.ref 0, lDead, lDead]) rfl rfl ?_
  refine wp_aload0 (pc' := 1) rfl rfl ?_
  refine wp_getI (pc' := 4) rfl rfl (by first | exact TK.k1 hT rfl | exact TK.kk hT rfl | exact TK.r hT rfl | assumption) rfl ?_
  refine wp_bipush (v := nI 12) (pc' := 6) rfl rfl rfl ?_
  rw [h4]
  refine wp_icmpneT rfl (fun e => absurd ((nI_eq (by omega) (by decide)).mp e) (by omega)) ?_
  refine wp_aload0 (pc' := 63) rfl rfl ?_
  refine wp_getRF (pc' := 66) rfl rfl (by first | exact TK.k1 hT rfl | exact TK.kk hT rfl | exact TK.r hT rfl | assumption) (by first | exact TK.k1 hT rfl | exact TK.kk hT rfl | exact TK.r hT rfl | assumption) rfl ?_
  refine wp_aload0 (pc' := 67) rfl rfl ?_
  refine wp_getI (pc' := 70) rfl rfl (by first | exact TK.k1 hT rfl | exact TK.kk hT rfl | exact TK.r hT rfl | assumption) rfl ?_
  refine wp_aald A (pc' := 71) rfl (TK.kk hT rfl) h4 (by omega) (by decide) ra rfl ?_
  refine wp_aload0 (pc' := 72) rfl rfl ?_
  refine wp_getRF (pc' := 75) rfl rfl (by first | exact TK.k1 hT rfl | exact TK.kk hT rfl | exact TK.r hT rfl | assumption) (by first | exact TK.k1 hT rfl | exact TK.kk hT rfl | exact TK.r hT rfl | assumption) rfl ?_
  refine wp_callV2 (pc' := 78) rfl rfl rfl rfl rfl hs2.1 rfl rfl ?_
  refine c_copy hs2 hb (Or.inr (by omega)) hr re hn1 ?_
  refine Cont.u ?_
  skip
  refine wp_aload0 (pc' := 79) rfl rfl ?_
  refine wp_dup (pc' := 80) rfl rfl rfl ?_
  refine wp_getI (pc' := 83) rfl rfl (by first | exact TK.k1 hT rfl | exact TK.kk hT rfl | exact TK.r hT rfl | assumption) rfl ?_
  refine wp_iconst (v := nI 1) (pc' := 84) rfl rfl rfl ?_
  first | refine wp_iaddN (pc' := 85) rfl (by with_reducible rfl) (by with_reducible rfl) rfl ?_ | refine wp_iadd (pc' := 85) rfl rfl ?_
  refine wp_putI (pc' := 88) rfl rfl (by first | exact TK.k1 hT rfl | exact TK.kk hT rfl | exact TK.r hT rfl | assumption) (by omega) rfl ?_
  refine wp_vret rfl rfl ?_
  rw [show cpS I (p A) 1 0 = I 0 from cpS_out (by omega), h4, nI_add]
  refine kk _ _ p (TK_18 hT (Or.inr ⟨rb, rc, rd⟩)) (rem_kp rb (by omega)) ?_
  rw [show pA A = A + 1 from if_neg (by omega), show pS A Ss (vw 1 I) = (fun i => if i < A then Ss i else vw 1 I) from by funext i; unfold pS; rw [if_neg (by omega)]]
  exact rem_core hA h1 h2 h5 hn1
theorem c_rem_b {d : Nat} {K : Nat → Nat × Nat} {I : Nat → Nat → Int32} {L : Nat → Nat → Int64} {R : Nat → Nat → Option Nat} {n s : Nat} {Q : Lo → Lm → Prop} {p : Nat → Nat} {A : Nat} {Ss : Nat → Mem} (hT : TK K R n) (hP : PastI I R p A Ss) (hr : I 1 14 = 0 ∨ I 1 14 = 1) (hn1 : Nrm (vw 1 I)) (hA : A = 12) (kk : ∀ J R2 p2, TK K R2 n → Kp I J R R2 → PastI J R2 p2 (pA A) (pS A Ss (vw 1 I)) → Q (.inl none) (K, J, L, R2, n, s)) : Ok (d + 3) 124 [.ref 0] (K, I, L, R, n, s) Q := by
  have hb := TK.s1 hT
  obtain ⟨-, -, hn⟩ := id hT
  obtain ⟨h1, h2, h3, h4, h5⟩ := id hP
  subst hA
  obtain ⟨ra, ⟨rb, rc, rd⟩, re⟩ := h1 0 (by decide)
  obtain ⟨k0b, -⟩ := hT.stOf (Or.inr ⟨rb, rc, rd⟩)
  refine Ok.enter (F := F_124) (ls := [.ref 0, lDead, lDead]) rfl rfl ?_
  refine wp_aload0 (pc' := 1) rfl rfl ?_
  refine wp_getI (pc' := 4) rfl rfl (by first | exact TK.k1 hT rfl | exact TK.kk hT rfl | exact TK.r hT rfl | assumption) rfl ?_
  refine wp_bipush (v := nI 12) (pc' := 6) rfl rfl rfl ?_
  rw [h4]
  refine wp_icmpneF (pc' := 9) rfl rfl rfl ?_
  refine wp_aload0 (pc' := 10) rfl rfl ?_
  refine wp_getRF (pc' := 13) rfl rfl (by first | exact TK.k1 hT rfl | exact TK.kk hT rfl | exact TK.r hT rfl | assumption) (by first | exact TK.k1 hT rfl | exact TK.kk hT rfl | exact TK.r hT rfl | assumption) rfl ?_
  refine wp_iconst (v := nI 0) (pc' := 14) rfl rfl rfl ?_
  refine wp_aald 0 (pc' := 15) rfl (TK.kk hT rfl) rfl (by decide) (by decide) ra rfl ?_
  refine wp_astore1 (pc' := 16) rfl (by first | rfl | assumption) rfl ?_
  refine wp_iconst (v := nI 1) (pc' := 17) rfl rfl rfl ?_
  refine wp_istore2 (pc' := 18) rfl (by first | rfl | assumption) rfl ?_
  have lp18 : ∀ r (i : Nat), i + r = 12 → 1 ≤ i → WP (d + 2) F_124 18 [.ref 0, .ref (p 0), .int (nI i)] [] (K, I, L, rotR R p i, n, s) Q := by
    intro r; induction r with
    | zero =>
      intro i hi hv0
      have hi2 : i = 12 := by omega
      subst hi2
      have hT : TK K (rotR R p 12) n := TK_37 hT (fun a ha => rotR_ne ha)
      refine wp_iload2 (pc' := 19) rfl rfl ?_
      refine wp_bipush (v := nI 12) (pc' := 21) rfl rfl rfl ?_
      refine wp_icmpgeT rfl (nI_nlt (by omega) (by omega)) ?_
      refine wp_aload0 (pc' := 45) rfl rfl ?_
      refine wp_getRF (pc' := 48) rfl rfl (by first | exact TK.k1 hT rfl | exact TK.kk hT rfl | exact TK.r hT rfl | assumption) (by first | exact TK.k1 hT rfl | exact TK.kk hT rfl | exact TK.r hT rfl | assumption) rfl ?_
      refine wp_bipush (v := nI 11) (pc' := 50) rfl rfl rfl ?_
      refine wp_aload1 (pc' := 51) rfl rfl ?_
      refine wp_aast 11 (pc' := 52) rfl (TK.kk hT rfl) (by omega) k0b (by omega) rfl (by decide) (by decide) rfl ?_
      have hT : TK K (up2 (rotR R p 12) 37 11 (some (p 0))) n := TK_37 hT (fun a ha => up2_row ha)
      have hb := TK.s1 hT
      have hs2 := hT.stOf (Or.inr ⟨rb, rc, rd⟩)
      have rf0 : up2 (rotR R p 12) 37 11 (some (p 0)) 37 11 = some (p 0) := up2_hit
      refine wp_aload0 (pc' := 53) rfl rfl ?_
      refine wp_dup (pc' := 54) rfl rfl rfl ?_
      refine wp_getI (pc' := 57) rfl rfl (by first | exact TK.k1 hT rfl | exact TK.kk hT rfl | exact TK.r hT rfl | assumption) rfl ?_
      rw [h4]
      refine wp_iconst (v := nI 1) (pc' := 58) rfl rfl rfl ?_
      first | refine wp_isubN (pc' := 59) rfl (by with_reducible rfl) (by with_reducible rfl) (by omega) rfl ?_ | refine wp_isub (pc' := 59) rfl rfl ?_
      refine wp_putI (pc' := 62) rfl rfl (by first | exact TK.k1 hT rfl | exact TK.kk hT rfl | exact TK.r hT rfl | assumption) (by omega) rfl ?_
      skip
      refine wp_aload0 (pc' := 63) rfl rfl ?_
      refine wp_getRF (pc' := 66) rfl rfl (by first | exact TK.k1 hT rfl | exact TK.kk hT rfl | exact TK.r hT rfl | assumption) (by first | exact TK.k1 hT rfl | exact TK.kk hT rfl | exact TK.r hT rfl | assumption) rfl ?_
      refine wp_aload0 (pc' := 67) rfl rfl ?_
      refine wp_getI (pc' := 70) rfl rfl (by first | exact TK.k1 hT rfl | exact TK.kk hT rfl | exact TK.r hT rfl | assumption) rfl ?_
      rw [up2_hit]
      refine wp_aald 11 (pc' := 71) rfl (TK.kk hT rfl) rfl (by decide) (by decide) rf0 rfl ?_
      refine wp_aload0 (pc' := 72) rfl rfl ?_
      refine wp_getRF (pc' := 75) rfl rfl (by first | exact TK.k1 hT rfl | exact TK.kk hT rfl | exact TK.r hT rfl | assumption) (by first | exact TK.k1 hT rfl | exact TK.kk hT rfl | exact TK.r hT rfl | assumption) rfl ?_
      refine wp_callV2 (pc' := 78) rfl rfl rfl rfl rfl hs2.1 rfl rfl ?_
      refine c_copy hs2 hb (Or.inr (by omega)) (by rw [up2_row (by decide)]; exact hr) (nrm_05 re (by omega)) (nrm_05 hn1 (by decide)) ?_
      rw [show up2 (rotR R p 12) 37 11 (some (p 0)) 1 18 = R 1 18 by rw [up2_row (by decide), rotR_ne (by decide)]]
      refine Cont.u ?_
      refine wp_aload0 (pc' := 79) rfl rfl ?_
      refine wp_dup (pc' := 80) rfl rfl rfl ?_
      refine wp_getI (pc' := 83) rfl rfl (by first | exact TK.k1 hT rfl | exact TK.kk hT rfl | exact TK.r hT rfl | assumption) rfl ?_
      refine wp_iconst (v := nI 1) (pc' := 84) rfl rfl rfl ?_
      first | refine wp_iaddN (pc' := 85) rfl (by with_reducible rfl) (by with_reducible rfl) rfl ?_ | refine wp_iadd (pc' := 85) rfl rfl ?_
      refine wp_putI (pc' := 88) rfl rfl (by first | exact TK.k1 hT rfl | exact TK.kk hT rfl | exact TK.r hT rfl | assumption) (by omega) rfl ?_
      refine wp_vret rfl rfl ?_
      rw [show cpS (up2 I 0 5 (nI 11)) (p 0) 1 0 = up2 I 0 5 (nI 11) 0 from cpS_out (by omega), up2_hit]
      rw [show up2 (cpS (up2 I 0 5 (nI 11)) (p 0) 1) 0 5 (nI 11 + nI 1) = up2 (cpS I (p 0) 1) 0 5 (nI (11 + 1)) from rem_same (by omega)]
      refine kk _ _ (rotP p) (TK_18 hT (Or.inr ⟨rb, rc, rd⟩)) (rem_kp2 rb (by omega)) ?_
      rw [show pA 12 = 11 + 1 from rfl, show pS 12 Ss (vw 1 I) = (fun i => if i < 11 then Ss (i + 1) else vw 1 I) from rfl]
      exact rem_b hP hn1
    | succ r ih =>
      intro i hi hv0
      have hlt : i < 12 := by omega
      have hT : TK K (rotR R p i) n := TK_37 hT (fun a ha => rotR_ne ha)
      refine wp_iload2 (pc' := 19) rfl rfl ?_
      refine wp_bipush (v := nI 12) (pc' := 21) rfl rfl rfl ?_
      refine wp_icmpgeF (pc' := 24) rfl (nI_lt (by omega) (by omega)) rfl ?_
      obtain ⟨ri, ⟨ci1, ci2, ci3⟩, -⟩ := h1 i (by omega)
      obtain ⟨di, -⟩ := hT.stOf (Or.inr ⟨ci1, ci2, ci3⟩)
      have ri2 := rotR_hit (p := p) ri
      refine wp_aload0 (pc' := 25) rfl rfl ?_
      refine wp_getRF (pc' := 28) rfl rfl (by first | exact TK.k1 hT rfl | exact TK.kk hT rfl | exact TK.r hT rfl | assumption) (by first | exact TK.k1 hT rfl | exact TK.kk hT rfl | exact TK.r hT rfl | assumption) rfl ?_
      refine wp_iload2 (pc' := 29) rfl rfl ?_
      refine wp_iconst (v := nI 1) (pc' := 30) rfl rfl rfl ?_
      first | refine wp_isubN (pc' := 31) rfl (by with_reducible rfl) (by with_reducible rfl) (by omega) rfl ?_ | refine wp_isub (pc' := 31) rfl rfl ?_
      refine wp_aload0 (pc' := 32) rfl rfl ?_
      refine wp_getRF (pc' := 35) rfl rfl (by first | exact TK.k1 hT rfl | exact TK.kk hT rfl | exact TK.r hT rfl | assumption) (by first | exact TK.k1 hT rfl | exact TK.kk hT rfl | exact TK.r hT rfl | assumption) rfl ?_
      refine wp_iload2 (pc' := 36) rfl rfl ?_
      refine wp_aald i (pc' := 37) rfl (TK.kk hT rfl) rfl (by omega) (by decide) ri2 rfl ?_
      refine wp_aast (i - 1) (pc' := 38) rfl (TK.kk hT rfl) (by omega) di (by omega) rfl (by omega) (by decide) rfl ?_
      first | refine wp_iinc2 (w := nI 1) (pc' := 41) rfl rfl rfl (by with_reducible exact nI_add _ _) rfl ?_ | refine wp_iinc2 (w := nI 1) (pc' := 41) rfl rfl rfl rfl rfl ?_
      refine wp_goto rfl ?_
      exact WP.cg (ih (i + 1) (by omega) (by omega)) (lC1 (lC1 (lI1 (by first | with_reducible rfl | (simp only [forN, *, ↓reduceIte, not_true_eq_false, not_false_eq_true, and_self, and_true, true_and, and_false, false_and]; done) | rfl | (simp_all [forN]; done)) rfl))) rfl (by rw [rotR_s hv0])
  exact WP.cg (lp18 (12 - (1)) (1) (by omega) (by decide)) (lC1 (lC1 (lI1 (by first | with_reducible rfl | (simp only [forN, *, ↓reduceIte, not_true_eq_false, not_false_eq_true, and_self, and_true, true_and, and_false, false_and]; done) | rfl | (simp_all [forN]; done)) rfl))) rfl (by rw [rotR_0])
theorem c_remember {d : Nat} {K : Nat → Nat × Nat} {I : Mem} {L : Nat → Nat → Int64} {R : Nat → Nat → Option Nat} {n s : Nat} {Q : Lo → Lm → Prop} {p : Nat → Nat} {A : Nat} {Ss : Nat → Mem} (hT : TK K R n) (hP : PastI I R p A Ss) (hr : I 1 14 = 0 ∨ I 1 14 = 1) (hn1 : Nrm (vw 1 I)) (kk : ∀ J R2 p2, TK K R2 n → Kp I J R R2 → PastI J R2 p2 (pA A) (pS A Ss (vw 1 I)) → Q (.inl none) (K, J, L, R2, n, s)) : Ok (d + 3) 124 [.ref 0] (K, I, L, R, n, s) Q := by
  by_cases hA : A = 12
  · exact c_rem_b hT hP hr hn1 hA kk
  · exact c_rem_a hT hP hr hn1 (by have := hP.2.2.1; omega) kk
theorem c_dig {d : Nat} {K : Nat → Nat × Nat} {I : Nat → Nat → Int32} {L : Nat → Nat → Int64} {R : Nat → Nat → Option Nat} {n s : Nat} {Q : Lo → Lm → Prop} {x : Int32} {p : Nat → Nat} {A : Nat} {Ss : Nat → Mem} (hT : TK K R n) (hf : n + 1 ≤ lmCells) (hs : s + 6 ≤ lmSlots) (hP : PastI I R p A Ss) (hr : I 1 14 = 0 ∨ I 1 14 = 1) (hn1 : Nrm (vw 1 I)) (kkE : ¬ InR x 25 → Q (.inr n) (exM 16 (K, I, L, R, n, s))) (kk : ∀ c, c < 25 → x = nI c → ∀ J R2 p2, TK K R2 n → Kp I J R R2 → PastI J R2 p2 (pA A) (pS A Ss (vw 1 I)) → Q (.inl (some (.int (if ¬ hasP (J 1 11) c then nI 1 else nI 0)))) (K, up2 J 1 11 (J 1 11 ||| jshl (nI 1) (nI c)), L, R2, n, s)) : Ok (d + 4) 136 [.ref 0, .int x] (K, I, L, R, n, s) Q := by
  have hb := TK.s1 hT
  obtain ⟨-, -, hn⟩ := id hT
  refine Ok.enter (F := F_136) (ls := [.ref 0, .int x, lDead]) rfl rfl ?_
  refine wp_iload1 (pc' := 1) rfl rfl ?_
  refine wp_callS1 (pc' := 4) rfl rfl rfl rfl rfl rfl ?_
  refine c_needCell hf hs (fun he => Cont.e rfl (kkE he)) (fun c hc hx => ?_)
  subst hx
  refine Cont.u ?_
  refine wp_aload0 (pc' := 5) rfl rfl ?_
  refine wp_callV1 (pc' := 8) rfl rfl rfl rfl rfl (by first | exact TK.k1 hT rfl | exact TK.kk hT rfl | exact TK.r hT rfl | assumption) rfl rfl ?_
  refine c_remember hT hP hr hn1 (fun J R2 p2 hT hkp hP2 => ?_)
  have hb := TK.s1 hT
  refine Cont.u ?_
  refine wp_aload0 (pc' := 9) rfl rfl ?_
  refine wp_getRF (pc' := 12) rfl rfl (by first | exact TK.k1 hT rfl | exact TK.kk hT rfl | exact TK.r hT rfl | assumption) (by first | exact TK.k1 hT rfl | exact TK.kk hT rfl | exact TK.r hT rfl | assumption) rfl ?_
  refine wp_getI (pc' := 15) rfl rfl (by first | exact TK.k1 hT rfl | exact TK.kk hT rfl | exact TK.r hT rfl | assumption) rfl ?_
  refine wp_iload1 (pc' := 16) rfl rfl ?_
  refine wp_ishr (pc' := 17) rfl rfl ?_
  refine wp_iconst (v := nI 1) (pc' := 18) rfl rfl rfl ?_
  refine wp_iand (pc' := 19) rfl rfl ?_
  refine wp_iconst (v := nI 1) (pc' := 20) rfl rfl rfl ?_
  refine wp_icmpne (pc' := 23) rfl rfl ?_ ?_
  · intro h20
    refine wp_iconst (v := nI 0) (pc' := 28) rfl rfl rfl ?_
    refine wp_istore2 (pc' := 29) rfl (by first | rfl | assumption) rfl ?_
    refine wp_aload0 (pc' := 30) rfl rfl ?_
    refine wp_getRF (pc' := 33) rfl rfl (by first | exact TK.k1 hT rfl | exact TK.kk hT rfl | exact TK.r hT rfl | assumption) (by first | exact TK.k1 hT rfl | exact TK.kk hT rfl | exact TK.r hT rfl | assumption) rfl ?_
    refine wp_dup (pc' := 34) rfl rfl rfl ?_
    refine wp_getI (pc' := 37) rfl rfl (by first | exact TK.k1 hT rfl | exact TK.kk hT rfl | exact TK.r hT rfl | assumption) rfl ?_
    refine wp_iconst (v := nI 1) (pc' := 38) rfl rfl rfl ?_
    refine wp_iload1 (pc' := 39) rfl rfl ?_
    refine wp_ishl (pc' := 40) rfl rfl ?_
    refine wp_ior (pc' := 41) rfl rfl ?_
    refine wp_putI (pc' := 44) rfl rfl (by first | exact TK.k1 hT rfl | exact TK.kk hT rfl | exact TK.r hT rfl | assumption) (by omega) rfl ?_
    refine wp_iload2 (pc' := 45) rfl rfl ?_
    refine wp_ifneF (pc' := 48) rfl rfl rfl ?_
    refine wp_iconst (v := nI 1) (pc' := 49) rfl rfl rfl ?_
    refine wp_goto rfl ?_
    refine wp_iret rfl rfl (by first | rfl | exact nar_if) ?_
    exact Qv (kk c hc rfl J R2 p2 hT hkp hP2) (by simp only [hasP, *, ↓reduceIte, not_true_eq_false, not_false_eq_true]) rfl
  · intro h20
    refine wp_iconst (v := nI 1) (pc' := 24) rfl rfl rfl ?_
    refine wp_goto rfl ?_
    refine wp_istore2 (pc' := 29) rfl (by first | rfl | assumption) rfl ?_
    refine wp_aload0 (pc' := 30) rfl rfl ?_
    refine wp_getRF (pc' := 33) rfl rfl (by first | exact TK.k1 hT rfl | exact TK.kk hT rfl | exact TK.r hT rfl | assumption) (by first | exact TK.k1 hT rfl | exact TK.kk hT rfl | exact TK.r hT rfl | assumption) rfl ?_
    refine wp_dup (pc' := 34) rfl rfl rfl ?_
    refine wp_getI (pc' := 37) rfl rfl (by first | exact TK.k1 hT rfl | exact TK.kk hT rfl | exact TK.r hT rfl | assumption) rfl ?_
    refine wp_iconst (v := nI 1) (pc' := 38) rfl rfl rfl ?_
    refine wp_iload1 (pc' := 39) rfl rfl ?_
    refine wp_ishl (pc' := 40) rfl rfl ?_
    refine wp_ior (pc' := 41) rfl rfl ?_
    refine wp_putI (pc' := 44) rfl rfl (by first | exact TK.k1 hT rfl | exact TK.kk hT rfl | exact TK.r hT rfl | assumption) (by omega) rfl ?_
    refine wp_iload2 (pc' := 45) rfl rfl ?_
    refine wp_ifneT rfl (by decide) ?_
    refine wp_iconst (v := nI 0) (pc' := 53) rfl rfl rfl ?_
    refine wp_iret rfl rfl (by first | rfl | exact nar_if) ?_
    exact Qv (kk c hc rfl J R2 p2 hT hkp hP2) (by simp only [hasP, *, ↓reduceIte, not_true_eq_false, not_false_eq_true]) rfl
theorem c_block {d : Nat} {K : Nat → Nat × Nat} {I : Nat → Nat → Int32} {L : Nat → Nat → Int64} {R : Nat → Nat → Option Nat} {n s : Nat} {Q : Lo → Lm → Prop} {x : Int32} {p : Nat → Nat} {A : Nat} {Ss : Nat → Mem} (hT : TK K R n) (hf : n + 1 ≤ lmCells) (hs : s + 6 ≤ lmSlots) (hP : PastI I R p A Ss) (hr : I 1 14 = 0 ∨ I 1 14 = 1) (hn1 : Nrm (vw 1 I)) (kkE : ¬ InR x 25 → Q (.inr n) (exM 16 (K, I, L, R, n, s))) (kk : ∀ c, c < 25 → x = nI c → ∀ J R2 p2, TK K R2 n → Kp I J R R2 → PastI J R2 p2 (pA A) (pS A Ss (vw 1 I)) → Q (.inl (some (.int (if hasP (J 1 11) c then nI 1 else nI 0)))) (K, up2 J 1 11 (J 1 11 &&& (jshl (nI 1) (nI c) ^^^ (-1))), L, R2, n, s)) : Ok (d + 4) 138 [.ref 0, .int x] (K, I, L, R, n, s) Q := by
  have hb := TK.s1 hT
  obtain ⟨-, -, hn⟩ := id hT
  refine Ok.enter (F := F_138) (ls := [.ref 0, .int x, lDead]) rfl rfl ?_
  refine wp_iload1 (pc' := 1) rfl rfl ?_
  refine wp_callS1 (pc' := 4) rfl rfl rfl rfl rfl rfl ?_
  refine c_needCell hf hs (fun he => Cont.e rfl (kkE he)) (fun c hc hx => ?_)
  subst hx
  refine Cont.u ?_
  refine wp_aload0 (pc' := 5) rfl rfl ?_
  refine wp_callV1 (pc' := 8) rfl rfl rfl rfl rfl (by first | exact TK.k1 hT rfl | exact TK.kk hT rfl | exact TK.r hT rfl | assumption) rfl rfl ?_
  refine c_remember hT hP hr hn1 (fun J R2 p2 hT hkp hP2 => ?_)
  have hb := TK.s1 hT
  refine Cont.u ?_
  refine wp_aload0 (pc' := 9) rfl rfl ?_
  refine wp_getRF (pc' := 12) rfl rfl (by first | exact TK.k1 hT rfl | exact TK.kk hT rfl | exact TK.r hT rfl | assumption) (by first | exact TK.k1 hT rfl | exact TK.kk hT rfl | exact TK.r hT rfl | assumption) rfl ?_
  refine wp_getI (pc' := 15) rfl rfl (by first | exact TK.k1 hT rfl | exact TK.kk hT rfl | exact TK.r hT rfl | assumption) rfl ?_
  refine wp_iload1 (pc' := 16) rfl rfl ?_
  refine wp_ishr (pc' := 17) rfl rfl ?_
  refine wp_iconst (v := nI 1) (pc' := 18) rfl rfl rfl ?_
  refine wp_iand (pc' := 19) rfl rfl ?_
  refine wp_iconst (v := nI 1) (pc' := 20) rfl rfl rfl ?_
  refine wp_icmpne (pc' := 23) rfl rfl ?_ ?_
  · intro h20
    refine wp_iconst (v := nI 0) (pc' := 28) rfl rfl rfl ?_
    refine wp_istore2 (pc' := 29) rfl (by first | rfl | assumption) rfl ?_
    refine wp_aload0 (pc' := 30) rfl rfl ?_
    refine wp_getRF (pc' := 33) rfl rfl (by first | exact TK.k1 hT rfl | exact TK.kk hT rfl | exact TK.r hT rfl | assumption) (by first | exact TK.k1 hT rfl | exact TK.kk hT rfl | exact TK.r hT rfl | assumption) rfl ?_
    refine wp_dup (pc' := 34) rfl rfl rfl ?_
    refine wp_getI (pc' := 37) rfl rfl (by first | exact TK.k1 hT rfl | exact TK.kk hT rfl | exact TK.r hT rfl | assumption) rfl ?_
    refine wp_iconst (v := nI 1) (pc' := 38) rfl rfl rfl ?_
    refine wp_iload1 (pc' := 39) rfl rfl ?_
    refine wp_ishl (pc' := 40) rfl rfl ?_
    refine wp_iconst (v := (-1)) (pc' := 41) rfl rfl rfl ?_
    refine wp_ixor (pc' := 42) rfl rfl ?_
    refine wp_iand (pc' := 43) rfl rfl ?_
    refine wp_putI (pc' := 46) rfl rfl (by first | exact TK.k1 hT rfl | exact TK.kk hT rfl | exact TK.r hT rfl | assumption) (by omega) rfl ?_
    refine wp_iload2 (pc' := 47) rfl rfl ?_
    refine wp_iret rfl rfl (by first | rfl | exact nar_if) ?_
    exact Qv (kk c hc rfl J R2 p2 hT hkp hP2) (by simp only [hasP, *, ↓reduceIte]) rfl
  · intro h20
    refine wp_iconst (v := nI 1) (pc' := 24) rfl rfl rfl ?_
    refine wp_goto rfl ?_
    refine wp_istore2 (pc' := 29) rfl (by first | rfl | assumption) rfl ?_
    refine wp_aload0 (pc' := 30) rfl rfl ?_
    refine wp_getRF (pc' := 33) rfl rfl (by first | exact TK.k1 hT rfl | exact TK.kk hT rfl | exact TK.r hT rfl | assumption) (by first | exact TK.k1 hT rfl | exact TK.kk hT rfl | exact TK.r hT rfl | assumption) rfl ?_
    refine wp_dup (pc' := 34) rfl rfl rfl ?_
    refine wp_getI (pc' := 37) rfl rfl (by first | exact TK.k1 hT rfl | exact TK.kk hT rfl | exact TK.r hT rfl | assumption) rfl ?_
    refine wp_iconst (v := nI 1) (pc' := 38) rfl rfl rfl ?_
    refine wp_iload1 (pc' := 39) rfl rfl ?_
    refine wp_ishl (pc' := 40) rfl rfl ?_
    refine wp_iconst (v := (-1)) (pc' := 41) rfl rfl rfl ?_
    refine wp_ixor (pc' := 42) rfl rfl ?_
    refine wp_iand (pc' := 43) rfl rfl ?_
    refine wp_putI (pc' := 46) rfl rfl (by first | exact TK.k1 hT rfl | exact TK.kk hT rfl | exact TK.r hT rfl | assumption) (by omega) rfl ?_
    refine wp_iload2 (pc' := 47) rfl rfl ?_
    refine wp_iret rfl rfl (by first | rfl | exact nar_if) ?_
    exact Qv (kk c hc rfl J R2 p2 hT hkp hP2) (by simp only [hasP, *, ↓reduceIte]) rfl
theorem c_cut {d : Nat} {K : Nat → Nat × Nat} {I : Nat → Nat → Int32} {L : Nat → Nat → Int64} {R : Nat → Nat → Option Nat} {n s : Nat} {Q : Lo → Lm → Prop} {x z : Int32} {H q : Nat} {p : Nat → Nat} {A : Nat} {Ss : Nat → Mem} (hT : TK K R n) (hf : n + 1 ≤ lmCells) (hs : s + 6 ≤ lmSlots) (hP : PastI I R p A Ss) (hr : I 1 14 = 0 ∨ I 1 14 = 1) (hn1 : Nrm (vw 1 I)) (hH : I 1 10 = nI H) (hH6 : H ≤ 6) (hq : I 11 1 = nI q) (hq60 : q < 60) (kkE : ¬ (InR x H ∧ InR z 25) → Q (.inr n) (exM 16 (K, I, L, R, n, s))) (kkS : ∀ h c, h < H → c < 25 → x = nI h → z = nI c → ¬ (openQ (vw 1 I) c ∧ hasP (vw 1 I 9 h) c) → Q (.inr n) (exM 18 (K, I, L, R, n, s))) (kk : ∀ h c, h < H → c < 25 → x = nI h → z = nI c → (openQ (vw 1 I) c ∧ hasP (vw 1 I 9 h) c) → ∀ J R2 p2, TK K R2 n → Kp I J R R2 → PastI J R2 p2 (pA A) (pS A Ss (vw 1 I)) → Q (.inl (some (.int (cutM J 1 h c (nI 1) q 4 c)))) (K, cutM J 1 h c (nI 1) q, L, R2, n, s)) : Ok (d + 4) 128 [.ref 0, .int x, .int z] (K, I, L, R, n, s) Q := by
  have hb := TK.s1 hT
  obtain ⟨-, -, hn⟩ := id hT
  refine Ok.enter (F := F_128) (ls := [.ref 0, .int x, .int z]) rfl rfl ?_
  refine wp_aload0 (pc' := 1) rfl rfl ?_
  refine wp_iload1 (pc' := 2) rfl rfl ?_
  refine wp_callV2 (pc' := 5) rfl rfl rfl rfl rfl (by first | exact TK.k1 hT rfl | exact TK.kk hT rfl | exact TK.r hT rfl | assumption) rfl rfl ?_
  refine c_needHearth hT hH hH6 hf hs (fun he => Cont.e rfl (kkE (fun h => he h.1))) (fun h hh hx => ?_)
  subst hx
  refine Cont.u ?_
  refine wp_iload2 (pc' := 6) rfl rfl ?_
  refine wp_callS1 (pc' := 9) rfl rfl rfl rfl rfl rfl ?_
  refine c_needCell hf hs (fun he => Cont.e rfl (kkE (fun h => he h.2))) (fun c hc hx => ?_)
  subst hx
  refine Cont.u ?_
  refine wp_aload0 (pc' := 10) rfl rfl ?_
  refine wp_getRF (pc' := 13) rfl rfl (by first | exact TK.k1 hT rfl | exact TK.kk hT rfl | exact TK.r hT rfl | assumption) (by first | exact TK.k1 hT rfl | exact TK.kk hT rfl | exact TK.r hT rfl | assumption) rfl ?_
  refine wp_iload2 (pc' := 14) rfl rfl ?_
  refine wp_callV2 (pc' := 17) rfl rfl rfl rfl rfl (by first | exact TK.k1 hT rfl | exact TK.kk hT rfl | exact TK.r hT rfl | assumption) rfl rfl ?_
  refine c_isOpen hb (by omega) ?_
  refine Cont.v ?_
  first | refine wp_ifeqB (pc' := 20) rfl rfl ?_ ?_ | refine wp_ifeq (pc' := 20) rfl rfl ?_ ?_
  · intro h17
    refine wp_raise (pc := 32) rfl rfl rfl rfl rfl rfl rfl rfl rfl (by decide) (by decide) (by omega) (by omega) rfl ?_
    exact kkS h c hh hc rfl rfl (fun q => by first | exact h17 q.1 | exact h29 q.2)
  · intro h17
    refine wp_aload0 (pc' := 21) rfl rfl ?_
    refine wp_getRF (pc' := 24) rfl rfl (by first | exact TK.k1 hT rfl | exact TK.kk hT rfl | exact TK.r hT rfl | assumption) (by first | exact TK.k1 hT rfl | exact TK.kk hT rfl | exact TK.r hT rfl | assumption) rfl ?_
    refine wp_iload1 (pc' := 25) rfl rfl ?_
    refine wp_iload2 (pc' := 26) rfl rfl ?_
    refine wp_callV3 (pc' := 29) rfl rfl rfl rfl rfl (by first | exact TK.k1 hT rfl | exact TK.kk hT rfl | exact TK.r hT rfl | assumption) rfl rfl ?_
    refine c_hasRight hb (by omega) ?_
    refine Cont.v ?_
    first | refine wp_ifneB (pc' := 32) rfl rfl ?_ ?_ | refine wp_ifne (pc' := 32) rfl rfl ?_ ?_
    · intro h29
      refine wp_aload0 (pc' := 44) rfl rfl ?_
      refine wp_callV1 (pc' := 47) rfl rfl rfl rfl rfl (by first | exact TK.k1 hT rfl | exact TK.kk hT rfl | exact TK.r hT rfl | assumption) rfl rfl ?_
      refine c_remember hT hP hr hn1 (fun J R2 p2 hT hkp hP2 => ?_)
      have hb := TK.s1 hT
      have hq2 : J (1 + 10) 1 = nI q := by rw [hkp.1 11 (by decide) (by decide)]; exact hq
      refine Cont.u ?_
      refine wp_aload0 (pc' := 48) rfl rfl ?_
      refine wp_getRF (pc' := 51) rfl rfl (by first | exact TK.k1 hT rfl | exact TK.kk hT rfl | exact TK.r hT rfl | assumption) (by first | exact TK.k1 hT rfl | exact TK.kk hT rfl | exact TK.r hT rfl | assumption) rfl ?_
      refine wp_iload1 (pc' := 52) rfl rfl ?_
      refine wp_iload2 (pc' := 53) rfl rfl ?_
      refine wp_iconst (v := nI 1) (pc' := 54) rfl rfl rfl ?_
      refine wp_callV4 (pc' := 57) rfl rfl rfl rfl rfl (by first | exact TK.k1 hT rfl | exact TK.kk hT rfl | exact TK.r hT rfl | assumption) rfl rfl ?_
      refine c_cutAt hb (by omega) hc hq2 hq60 ?_
      refine Cont.u ?_
      refine wp_aload0 (pc' := 58) rfl rfl ?_
      refine wp_getRF (pc' := 61) rfl rfl (by first | exact TK.k1 hT rfl | exact TK.kk hT rfl | exact TK.r hT rfl | assumption) (by first | exact TK.k1 hT rfl | exact TK.kk hT rfl | exact TK.r hT rfl | assumption) rfl ?_
      refine wp_getRF (pc' := 64) rfl rfl (by first | exact TK.k1 hT rfl | exact TK.kk hT rfl | exact TK.r hT rfl | assumption) (by first | exact TK.k1 hT rfl | exact TK.kk hT rfl | exact TK.r hT rfl | assumption) rfl ?_
      refine wp_iload2 (pc' := 65) rfl rfl ?_
      refine wp_iald _ (pc' := 66) rfl (by first | exact TK.k1 hT rfl | exact TK.kk hT rfl | exact TK.r hT rfl | assumption) (by with_reducible rfl) (by omega) (by first | decide | assumption | omega) rfl ?_
      refine wp_iret rfl rfl rfl ?_
      exact kk h c hh hc rfl rfl ⟨h17, h29⟩ J R2 p2 hT hkp hP2
    · intro h29
      refine wp_raise (pc := 32) rfl rfl rfl rfl rfl rfl rfl rfl rfl (by decide) (by decide) (by omega) (by omega) rfl ?_
      exact kkS h c hh hc rfl rfl (fun q => by first | exact h17 q.1 | exact h29 q.2)
theorem c_right {d : Nat} {K : Nat → Nat × Nat} {I : Nat → Nat → Int32} {L : Nat → Nat → Int64} {R : Nat → Nat → Option Nat} {n s : Nat} {Q : Lo → Lm → Prop} {x z : Int32} {b : Prop} [Decidable b] {H : Nat} {p : Nat → Nat} {A : Nat} {Ss : Nat → Mem} (hT : TK K R n) (hf : n + 1 ≤ lmCells) (hs : s + 6 ≤ lmSlots) (hP : PastI I R p A Ss) (hr : I 1 14 = 0 ∨ I 1 14 = 1) (hn1 : Nrm (vw 1 I)) (hH : I 1 10 = nI H) (hH6 : H ≤ 6) (kkE : ¬ (InR x H ∧ InR z 25) → Q (.inr n) (exM 16 (K, I, L, R, n, s))) (kk : ∀ h c, h < H → c < 25 → x = nI h → z = nI c → ∀ J R2 p2, TK K R2 n → Kp I J R R2 → PastI J R2 p2 (pA A) (pS A Ss (vw 1 I)) → Q (.inl (some (.int (rightV b (vw 1 J 9 h) c)))) (K, rightM J h c b, L, R2, n, s)) : Ok (d + 4) 140 [.ref 0, .int x, .int z, .int (if b then nI 1 else nI 0)] (K, I, L, R, n, s) Q := by
  have hb := TK.s1 hT
  obtain ⟨-, -, hn⟩ := id hT
  refine Ok.enter (F := F_140) (ls := [.ref 0, .int x, .int z, .int (if b then nI 1 else nI 0), lDead]) rfl rfl ?_
  refine wp_aload0 (pc' := 1) rfl rfl ?_
  refine wp_iload1 (pc' := 2) rfl rfl ?_
  refine wp_callV2 (pc' := 5) rfl rfl rfl rfl rfl (by first | exact TK.k1 hT rfl | exact TK.kk hT rfl | exact TK.r hT rfl | assumption) rfl rfl ?_
  refine c_needHearth hT hH hH6 hf hs (fun he => Cont.e rfl (kkE (fun h => he h.1))) (fun h hh hx => ?_)
  subst hx
  refine Cont.u ?_
  refine wp_iload2 (pc' := 6) rfl rfl ?_
  refine wp_callS1 (pc' := 9) rfl rfl rfl rfl rfl rfl ?_
  refine c_needCell hf hs (fun he => Cont.e rfl (kkE (fun h => he h.2))) (fun c hc hx => ?_)
  subst hx
  refine Cont.u ?_
  refine wp_aload0 (pc' := 10) rfl rfl ?_
  refine wp_callV1 (pc' := 13) rfl rfl rfl rfl rfl (by first | exact TK.k1 hT rfl | exact TK.kk hT rfl | exact TK.r hT rfl | assumption) rfl rfl ?_
  refine c_remember hT hP hr hn1 (fun J R2 p2 hT hkp hP2 => ?_)
  have hb := TK.s1 hT
  refine Cont.u ?_
  refine wp_aload0 (pc' := 14) rfl rfl ?_
  refine wp_getRF (pc' := 17) rfl rfl (by first | exact TK.k1 hT rfl | exact TK.kk hT rfl | exact TK.r hT rfl | assumption) (by first | exact TK.k1 hT rfl | exact TK.kk hT rfl | exact TK.r hT rfl | assumption) rfl ?_
  refine wp_iload1 (pc' := 18) rfl rfl ?_
  refine wp_iload2 (pc' := 19) rfl rfl ?_
  refine wp_callV3 (pc' := 22) rfl rfl rfl rfl rfl (by first | exact TK.k1 hT rfl | exact TK.kk hT rfl | exact TK.r hT rfl | assumption) rfl rfl ?_
  refine c_hasRight hb (by omega) ?_
  refine Cont.v ?_
  refine wp_istore4 (pc' := 24) rfl (by first | rfl | assumption) rfl ?_
  refine wp_iload3 (pc' := 25) rfl rfl ?_
  first | refine wp_ifeqB (pc' := 28) rfl rfl ?_ ?_ | refine wp_ifeq (pc' := 28) rfl rfl ?_ ?_
  · intro h25
    refine wp_aload0 (pc' := 47) rfl rfl ?_
    refine wp_getRF (pc' := 50) rfl rfl (by first | exact TK.k1 hT rfl | exact TK.kk hT rfl | exact TK.r hT rfl | assumption) (by first | exact TK.k1 hT rfl | exact TK.kk hT rfl | exact TK.r hT rfl | assumption) rfl ?_
    refine wp_getRF (pc' := 53) rfl rfl (by first | exact TK.k1 hT rfl | exact TK.kk hT rfl | exact TK.r hT rfl | assumption) (by first | exact TK.k1 hT rfl | exact TK.kk hT rfl | exact TK.r hT rfl | assumption) rfl ?_
    refine wp_iload1 (pc' := 54) rfl rfl ?_
    refine wp_dup2 (pc' := 55) rfl rfl rfl rfl ?_
    refine wp_iald _ (pc' := 56) rfl (by first | exact TK.k1 hT rfl | exact TK.kk hT rfl | exact TK.r hT rfl | assumption) (by with_reducible rfl) (by omega) (by first | decide | assumption | omega) rfl ?_
    refine wp_iconst (v := nI 1) (pc' := 57) rfl rfl rfl ?_
    refine wp_iload2 (pc' := 58) rfl rfl ?_
    refine wp_ishl (pc' := 59) rfl rfl ?_
    refine wp_iconst (v := (-1)) (pc' := 60) rfl rfl rfl ?_
    refine wp_ixor (pc' := 61) rfl rfl ?_
    refine wp_iand (pc' := 62) rfl rfl ?_
    refine wp_iast _ (pc' := 63) rfl (by first | exact TK.k1 hT rfl | exact TK.kk hT rfl | exact TK.r hT rfl | assumption) (by omega) (by with_reducible rfl) (by omega) (by first | decide | assumption | omega) rfl ?_
    refine wp_iload4 (pc' := 65) rfl rfl ?_
    refine wp_iload3 (pc' := 66) rfl rfl ?_
    refine wp_icmpeq (pc' := 69) rfl rfl ?_ ?_
    · intro h66
      refine wp_iconst (v := nI 0) (pc' := 74) rfl rfl rfl ?_
      refine wp_iret rfl rfl (by first | rfl | exact nar_if) ?_
      exact Qv (kk h c hh hc rfl rfl J R2 p2 hT hkp hP2) (by unfold rightV; first | rw [if_pos h66] | rw [if_neg h66]) (by unfold rightM; simp only [h25, ↓reduceIte])
    · intro h66
      refine wp_iconst (v := nI 1) (pc' := 70) rfl rfl rfl ?_
      refine wp_goto rfl ?_
      refine wp_iret rfl rfl (by first | rfl | exact nar_if) ?_
      exact Qv (kk h c hh hc rfl rfl J R2 p2 hT hkp hP2) (by unfold rightV; first | rw [if_pos h66] | rw [if_neg h66]) (by unfold rightM; simp only [h25, ↓reduceIte])
  · intro h25
    refine wp_aload0 (pc' := 29) rfl rfl ?_
    refine wp_getRF (pc' := 32) rfl rfl (by first | exact TK.k1 hT rfl | exact TK.kk hT rfl | exact TK.r hT rfl | assumption) (by first | exact TK.k1 hT rfl | exact TK.kk hT rfl | exact TK.r hT rfl | assumption) rfl ?_
    refine wp_getRF (pc' := 35) rfl rfl (by first | exact TK.k1 hT rfl | exact TK.kk hT rfl | exact TK.r hT rfl | assumption) (by first | exact TK.k1 hT rfl | exact TK.kk hT rfl | exact TK.r hT rfl | assumption) rfl ?_
    refine wp_iload1 (pc' := 36) rfl rfl ?_
    refine wp_dup2 (pc' := 37) rfl rfl rfl rfl ?_
    refine wp_iald _ (pc' := 38) rfl (by first | exact TK.k1 hT rfl | exact TK.kk hT rfl | exact TK.r hT rfl | assumption) (by with_reducible rfl) (by omega) (by first | decide | assumption | omega) rfl ?_
    refine wp_iconst (v := nI 1) (pc' := 39) rfl rfl rfl ?_
    refine wp_iload2 (pc' := 40) rfl rfl ?_
    refine wp_ishl (pc' := 41) rfl rfl ?_
    refine wp_ior (pc' := 42) rfl rfl ?_
    refine wp_iast _ (pc' := 43) rfl (by first | exact TK.k1 hT rfl | exact TK.kk hT rfl | exact TK.r hT rfl | assumption) (by omega) (by with_reducible rfl) (by omega) (by first | decide | assumption | omega) rfl ?_
    refine wp_goto rfl ?_
    refine wp_iload4 (pc' := 65) rfl rfl ?_
    refine wp_iload3 (pc' := 66) rfl rfl ?_
    refine wp_icmpeq (pc' := 69) rfl rfl ?_ ?_
    · intro h66
      refine wp_iconst (v := nI 0) (pc' := 74) rfl rfl rfl ?_
      refine wp_iret rfl rfl (by first | rfl | exact nar_if) ?_
      exact Qv (kk h c hh hc rfl rfl J R2 p2 hT hkp hP2) (by unfold rightV; first | rw [if_pos h66] | rw [if_neg h66]) (by unfold rightM; simp only [h25, ↓reduceIte])
    · intro h66
      refine wp_iconst (v := nI 1) (pc' := 70) rfl rfl rfl ?_
      refine wp_goto rfl ?_
      refine wp_iret rfl rfl (by first | rfl | exact nar_if) ?_
      exact Qv (kk h c hh hc rfl rfl J R2 p2 hT hkp hP2) (by unfold rightV; first | rw [if_pos h66] | rw [if_neg h66]) (by unfold rightM; simp only [h25, ↓reduceIte])
theorem c_foot {d : Nat} {K : Nat → Nat × Nat} {I : Nat → Nat → Int32} {L : Nat → Nat → Int64} {R : Nat → Nat → Option Nat} {n s : Nat} {Q : Lo → Lm → Prop} {x : Int32} {p : Nat → Nat} {A : Nat} {Ss : Nat → Mem} (hT : TK K R n) (hf : n + 1 ≤ lmCells) (hs : s + 6 ≤ lmSlots) (hP : PastI I R p A Ss) (hr : I 1 14 = 0 ∨ I 1 14 = 1) (hn1 : Nrm (vw 1 I)) (kkE : ¬ InR x 25 → Q (.inr n) (exM 16 (K, I, L, R, n, s))) (kkS : ∀ c, c < 25 → x = nI c → ¬ footP (vw 1 I) c → Q (.inr n) (exM 18 (K, I, L, R, n, s))) (kk : ∀ c, c < 25 → x = nI c → footP (vw 1 I) c → ∀ J R2 p2, TK K R2 n → Kp I J R R2 → PastI J R2 p2 (pA A) (pS A Ss (vw 1 I)) → Q (.inl (some (.int (I 6 c + nI 1)))) (K, up2 J 6 c (I 6 c + nI 1), L, R2, n, s)) : Ok (d + 4) 130 [.ref 0, .int x] (K, I, L, R, n, s) Q := by
  have hb := TK.s1 hT
  obtain ⟨-, -, hn⟩ := id hT
  refine Ok.enter (F := F_130) (ls := [.ref 0, .int x, lDead, lDead]) rfl rfl ?_
  refine wp_iload1 (pc' := 1) rfl rfl ?_
  refine wp_callS1 (pc' := 4) rfl rfl rfl rfl rfl rfl ?_
  refine c_needCell hf hs (fun he => Cont.e rfl (kkE he)) (fun c hc hx => ?_)
  subst hx
  refine Cont.u ?_
  refine wp_aload0 (pc' := 5) rfl rfl ?_
  refine wp_getRF (pc' := 8) rfl rfl (by first | exact TK.k1 hT rfl | exact TK.kk hT rfl | exact TK.r hT rfl | assumption) (by first | exact TK.k1 hT rfl | exact TK.kk hT rfl | exact TK.r hT rfl | assumption) rfl ?_
  refine wp_getRF (pc' := 11) rfl rfl (by first | exact TK.k1 hT rfl | exact TK.kk hT rfl | exact TK.r hT rfl | assumption) (by first | exact TK.k1 hT rfl | exact TK.kk hT rfl | exact TK.r hT rfl | assumption) rfl ?_
  refine wp_iload1 (pc' := 12) rfl rfl ?_
  refine wp_iald _ (pc' := 13) rfl (by first | exact TK.k1 hT rfl | exact TK.kk hT rfl | exact TK.r hT rfl | assumption) (by with_reducible rfl) (by omega) (by first | decide | assumption | omega) rfl ?_
  refine wp_istore2 (pc' := 14) rfl (by first | rfl | assumption) rfl ?_
  refine wp_aload0 (pc' := 15) rfl rfl ?_
  refine wp_getRF (pc' := 18) rfl rfl (by first | exact TK.k1 hT rfl | exact TK.kk hT rfl | exact TK.r hT rfl | assumption) (by first | exact TK.k1 hT rfl | exact TK.kk hT rfl | exact TK.r hT rfl | assumption) rfl ?_
  refine wp_getRF (pc' := 21) rfl rfl (by first | exact TK.k1 hT rfl | exact TK.kk hT rfl | exact TK.r hT rfl | assumption) (by first | exact TK.k1 hT rfl | exact TK.kk hT rfl | exact TK.r hT rfl | assumption) rfl ?_
  refine wp_iload1 (pc' := 22) rfl rfl ?_
  refine wp_iald _ (pc' := 23) rfl (by first | exact TK.k1 hT rfl | exact TK.kk hT rfl | exact TK.r hT rfl | assumption) (by with_reducible rfl) (by omega) (by first | decide | assumption | omega) rfl ?_
  refine wp_iload2 (pc' := 24) rfl rfl ?_
  first | refine wp_ifneB (pc' := 27) rfl rfl ?_ ?_ | refine wp_ifne (pc' := 27) rfl rfl ?_ ?_
  · intro h24
    refine wp_bipush (v := nI 50) (pc' := 34) rfl rfl rfl ?_
    refine wp_icmplt (pc' := 37) rfl rfl ?_ ?_
    · intro h34
      refine wp_iconst (v := nI 0) (pc' := 42) rfl rfl rfl ?_
      refine wp_istore3 (pc' := 43) rfl (by first | rfl | assumption) rfl ?_
      refine wp_aload0 (pc' := 44) rfl rfl ?_
      refine wp_getRF (pc' := 47) rfl rfl (by first | exact TK.k1 hT rfl | exact TK.kk hT rfl | exact TK.r hT rfl | assumption) (by first | exact TK.k1 hT rfl | exact TK.kk hT rfl | exact TK.r hT rfl | assumption) rfl ?_
      refine wp_getRF (pc' := 50) rfl rfl (by first | exact TK.k1 hT rfl | exact TK.kk hT rfl | exact TK.r hT rfl | assumption) (by first | exact TK.k1 hT rfl | exact TK.kk hT rfl | exact TK.r hT rfl | assumption) rfl ?_
      refine wp_iload1 (pc' := 51) rfl rfl ?_
      refine wp_iald _ (pc' := 52) rfl (by first | exact TK.k1 hT rfl | exact TK.kk hT rfl | exact TK.r hT rfl | assumption) (by with_reducible rfl) (by omega) (by first | decide | assumption | omega) rfl ?_
      first | refine wp_ifeqB (pc' := 55) rfl rfl ?_ ?_ | refine wp_ifeq (pc' := 55) rfl rfl ?_ ?_
      · intro h52
        refine wp_raise (pc := 64) rfl rfl rfl rfl rfl rfl rfl rfl rfl (by decide) (by decide) (by omega) (by omega) rfl ?_
        refine kkS c hc rfl (fun ⟨q1, q2, q3⟩ => ?_)
        first | exact q1 h52 | exact h57 q2 | (simp only [v1_5, h24, ↓reduceIte] at q3; exact q3 h34)
      · intro h52
        refine wp_iload2 (pc' := 56) rfl rfl ?_
        refine wp_iconst (v := nI 2) (pc' := 57) rfl rfl rfl ?_
        refine wp_icmpge (pc' := 60) rfl rfl ?_ ?_
        · intro h57
          refine wp_raise (pc := 64) rfl rfl rfl rfl rfl rfl rfl rfl rfl (by decide) (by decide) (by omega) (by omega) rfl ?_
          refine kkS c hc rfl (fun ⟨q1, q2, q3⟩ => ?_)
          first | exact q1 h52 | exact h57 q2 | (simp only [v1_5, h24, ↓reduceIte] at q3; exact q3 h34)
        · intro h57
          refine wp_iload3 (pc' := 61) rfl rfl ?_
          refine wp_ifneF (pc' := 64) rfl rfl rfl ?_
          refine wp_raise (pc := 64) rfl rfl rfl rfl rfl rfl rfl rfl rfl (by decide) (by decide) (by omega) (by omega) rfl ?_
          refine kkS c hc rfl (fun ⟨q1, q2, q3⟩ => ?_)
          first | exact q1 h52 | exact h57 q2 | (simp only [v1_5, h24, ↓reduceIte] at q3; exact q3 h34)
    · intro h34
      refine wp_iconst (v := nI 1) (pc' := 38) rfl rfl rfl ?_
      refine wp_goto rfl ?_
      refine wp_istore3 (pc' := 43) rfl (by first | rfl | assumption) rfl ?_
      refine wp_aload0 (pc' := 44) rfl rfl ?_
      refine wp_getRF (pc' := 47) rfl rfl (by first | exact TK.k1 hT rfl | exact TK.kk hT rfl | exact TK.r hT rfl | assumption) (by first | exact TK.k1 hT rfl | exact TK.kk hT rfl | exact TK.r hT rfl | assumption) rfl ?_
      refine wp_getRF (pc' := 50) rfl rfl (by first | exact TK.k1 hT rfl | exact TK.kk hT rfl | exact TK.r hT rfl | assumption) (by first | exact TK.k1 hT rfl | exact TK.kk hT rfl | exact TK.r hT rfl | assumption) rfl ?_
      refine wp_iload1 (pc' := 51) rfl rfl ?_
      refine wp_iald _ (pc' := 52) rfl (by first | exact TK.k1 hT rfl | exact TK.kk hT rfl | exact TK.r hT rfl | assumption) (by with_reducible rfl) (by omega) (by first | decide | assumption | omega) rfl ?_
      first | refine wp_ifeqB (pc' := 55) rfl rfl ?_ ?_ | refine wp_ifeq (pc' := 55) rfl rfl ?_ ?_
      · intro h52
        refine wp_raise (pc := 64) rfl rfl rfl rfl rfl rfl rfl rfl rfl (by decide) (by decide) (by omega) (by omega) rfl ?_
        refine kkS c hc rfl (fun ⟨q1, q2, q3⟩ => ?_)
        first | exact q1 h52 | exact h57 q2 | (simp only [v1_5, h24, ↓reduceIte] at q3; exact q3 h34)
      · intro h52
        refine wp_iload2 (pc' := 56) rfl rfl ?_
        refine wp_iconst (v := nI 2) (pc' := 57) rfl rfl rfl ?_
        refine wp_icmpge (pc' := 60) rfl rfl ?_ ?_
        · intro h57
          refine wp_raise (pc := 64) rfl rfl rfl rfl rfl rfl rfl rfl rfl (by decide) (by decide) (by omega) (by omega) rfl ?_
          refine kkS c hc rfl (fun ⟨q1, q2, q3⟩ => ?_)
          first | exact q1 h52 | exact h57 q2 | (simp only [v1_5, h24, ↓reduceIte] at q3; exact q3 h34)
        · intro h57
          refine wp_iload3 (pc' := 61) rfl rfl ?_
          refine wp_ifneT rfl (by decide) ?_
          refine wp_aload0 (pc' := 76) rfl rfl ?_
          refine wp_callV1 (pc' := 79) rfl rfl rfl rfl rfl (by first | exact TK.k1 hT rfl | exact TK.kk hT rfl | exact TK.r hT rfl | assumption) rfl rfl ?_
          refine c_remember hT hP hr hn1 (fun J R2 p2 hT hkp hP2 => ?_)
          have hb := TK.s1 hT
          refine Cont.u ?_
          refine wp_aload0 (pc' := 80) rfl rfl ?_
          refine wp_getRF (pc' := 83) rfl rfl (by first | exact TK.k1 hT rfl | exact TK.kk hT rfl | exact TK.r hT rfl | assumption) (by first | exact TK.k1 hT rfl | exact TK.kk hT rfl | exact TK.r hT rfl | assumption) rfl ?_
          refine wp_getRF (pc' := 86) rfl rfl (by first | exact TK.k1 hT rfl | exact TK.kk hT rfl | exact TK.r hT rfl | assumption) (by first | exact TK.k1 hT rfl | exact TK.kk hT rfl | exact TK.r hT rfl | assumption) rfl ?_
          refine wp_iload1 (pc' := 87) rfl rfl ?_
          refine wp_iload2 (pc' := 88) rfl rfl ?_
          refine wp_iconst (v := nI 1) (pc' := 89) rfl rfl rfl ?_
          first | refine wp_iaddN (pc' := 90) rfl (by with_reducible rfl) (by with_reducible rfl) rfl ?_ | refine wp_iadd (pc' := 90) rfl rfl ?_
          refine wp_iast _ (pc' := 91) rfl (by first | exact TK.k1 hT rfl | exact TK.kk hT rfl | exact TK.r hT rfl | assumption) (by omega) (by with_reducible rfl) (by omega) (by first | decide | assumption | omega) rfl ?_
          refine wp_iload2 (pc' := 92) rfl rfl ?_
          refine wp_iconst (v := nI 1) (pc' := 93) rfl rfl rfl ?_
          first | refine wp_iaddN (pc' := 94) rfl (by with_reducible rfl) (by with_reducible rfl) rfl ?_ | refine wp_iadd (pc' := 94) rfl rfl ?_
          refine wp_iret rfl rfl rfl ?_
          exact kk c hc rfl ⟨h52, h57, by simp only [v1_5, h24, ↓reduceIte]; exact h34⟩ J R2 p2 hT hkp hP2
  · intro h24
    refine wp_bipush (v := nI 30) (pc' := 29) rfl rfl rfl ?_
    refine wp_goto rfl ?_
    refine wp_icmplt (pc' := 37) rfl rfl ?_ ?_
    · intro h34
      refine wp_iconst (v := nI 0) (pc' := 42) rfl rfl rfl ?_
      refine wp_istore3 (pc' := 43) rfl (by first | rfl | assumption) rfl ?_
      refine wp_aload0 (pc' := 44) rfl rfl ?_
      refine wp_getRF (pc' := 47) rfl rfl (by first | exact TK.k1 hT rfl | exact TK.kk hT rfl | exact TK.r hT rfl | assumption) (by first | exact TK.k1 hT rfl | exact TK.kk hT rfl | exact TK.r hT rfl | assumption) rfl ?_
      refine wp_getRF (pc' := 50) rfl rfl (by first | exact TK.k1 hT rfl | exact TK.kk hT rfl | exact TK.r hT rfl | assumption) (by first | exact TK.k1 hT rfl | exact TK.kk hT rfl | exact TK.r hT rfl | assumption) rfl ?_
      refine wp_iload1 (pc' := 51) rfl rfl ?_
      refine wp_iald _ (pc' := 52) rfl (by first | exact TK.k1 hT rfl | exact TK.kk hT rfl | exact TK.r hT rfl | assumption) (by with_reducible rfl) (by omega) (by first | decide | assumption | omega) rfl ?_
      first | refine wp_ifeqB (pc' := 55) rfl rfl ?_ ?_ | refine wp_ifeq (pc' := 55) rfl rfl ?_ ?_
      · intro h52
        refine wp_raise (pc := 64) rfl rfl rfl rfl rfl rfl rfl rfl rfl (by decide) (by decide) (by omega) (by omega) rfl ?_
        refine kkS c hc rfl (fun ⟨q1, q2, q3⟩ => ?_)
        first | exact q1 h52 | exact h57 q2 | (simp only [v1_5, h24, ↓reduceIte] at q3; exact q3 h34)
      · intro h52
        refine wp_iload2 (pc' := 56) rfl rfl ?_
        refine wp_iconst (v := nI 2) (pc' := 57) rfl rfl rfl ?_
        refine wp_icmpge (pc' := 60) rfl rfl ?_ ?_
        · intro h57
          refine wp_raise (pc := 64) rfl rfl rfl rfl rfl rfl rfl rfl rfl (by decide) (by decide) (by omega) (by omega) rfl ?_
          refine kkS c hc rfl (fun ⟨q1, q2, q3⟩ => ?_)
          first | exact q1 h52 | exact h57 q2 | (simp only [v1_5, h24, ↓reduceIte] at q3; exact q3 h34)
        · intro h57
          refine wp_iload3 (pc' := 61) rfl rfl ?_
          refine wp_ifneF (pc' := 64) rfl rfl rfl ?_
          refine wp_raise (pc := 64) rfl rfl rfl rfl rfl rfl rfl rfl rfl (by decide) (by decide) (by omega) (by omega) rfl ?_
          refine kkS c hc rfl (fun ⟨q1, q2, q3⟩ => ?_)
          first | exact q1 h52 | exact h57 q2 | (simp only [v1_5, h24, ↓reduceIte] at q3; exact q3 h34)
    · intro h34
      refine wp_iconst (v := nI 1) (pc' := 38) rfl rfl rfl ?_
      refine wp_goto rfl ?_
      refine wp_istore3 (pc' := 43) rfl (by first | rfl | assumption) rfl ?_
      refine wp_aload0 (pc' := 44) rfl rfl ?_
      refine wp_getRF (pc' := 47) rfl rfl (by first | exact TK.k1 hT rfl | exact TK.kk hT rfl | exact TK.r hT rfl | assumption) (by first | exact TK.k1 hT rfl | exact TK.kk hT rfl | exact TK.r hT rfl | assumption) rfl ?_
      refine wp_getRF (pc' := 50) rfl rfl (by first | exact TK.k1 hT rfl | exact TK.kk hT rfl | exact TK.r hT rfl | assumption) (by first | exact TK.k1 hT rfl | exact TK.kk hT rfl | exact TK.r hT rfl | assumption) rfl ?_
      refine wp_iload1 (pc' := 51) rfl rfl ?_
      refine wp_iald _ (pc' := 52) rfl (by first | exact TK.k1 hT rfl | exact TK.kk hT rfl | exact TK.r hT rfl | assumption) (by with_reducible rfl) (by omega) (by first | decide | assumption | omega) rfl ?_
      first | refine wp_ifeqB (pc' := 55) rfl rfl ?_ ?_ | refine wp_ifeq (pc' := 55) rfl rfl ?_ ?_
      · intro h52
        refine wp_raise (pc := 64) rfl rfl rfl rfl rfl rfl rfl rfl rfl (by decide) (by decide) (by omega) (by omega) rfl ?_
        refine kkS c hc rfl (fun ⟨q1, q2, q3⟩ => ?_)
        first | exact q1 h52 | exact h57 q2 | (simp only [v1_5, h24, ↓reduceIte] at q3; exact q3 h34)
      · intro h52
        refine wp_iload2 (pc' := 56) rfl rfl ?_
        refine wp_iconst (v := nI 2) (pc' := 57) rfl rfl rfl ?_
        refine wp_icmpge (pc' := 60) rfl rfl ?_ ?_
        · intro h57
          refine wp_raise (pc := 64) rfl rfl rfl rfl rfl rfl rfl rfl rfl (by decide) (by decide) (by omega) (by omega) rfl ?_
          refine kkS c hc rfl (fun ⟨q1, q2, q3⟩ => ?_)
          first | exact q1 h52 | exact h57 q2 | (simp only [v1_5, h24, ↓reduceIte] at q3; exact q3 h34)
        · intro h57
          refine wp_iload3 (pc' := 61) rfl rfl ?_
          refine wp_ifneT rfl (by decide) ?_
          refine wp_aload0 (pc' := 76) rfl rfl ?_
          refine wp_callV1 (pc' := 79) rfl rfl rfl rfl rfl (by first | exact TK.k1 hT rfl | exact TK.kk hT rfl | exact TK.r hT rfl | assumption) rfl rfl ?_
          refine c_remember hT hP hr hn1 (fun J R2 p2 hT hkp hP2 => ?_)
          have hb := TK.s1 hT
          refine Cont.u ?_
          refine wp_aload0 (pc' := 80) rfl rfl ?_
          refine wp_getRF (pc' := 83) rfl rfl (by first | exact TK.k1 hT rfl | exact TK.kk hT rfl | exact TK.r hT rfl | assumption) (by first | exact TK.k1 hT rfl | exact TK.kk hT rfl | exact TK.r hT rfl | assumption) rfl ?_
          refine wp_getRF (pc' := 86) rfl rfl (by first | exact TK.k1 hT rfl | exact TK.kk hT rfl | exact TK.r hT rfl | assumption) (by first | exact TK.k1 hT rfl | exact TK.kk hT rfl | exact TK.r hT rfl | assumption) rfl ?_
          refine wp_iload1 (pc' := 87) rfl rfl ?_
          refine wp_iload2 (pc' := 88) rfl rfl ?_
          refine wp_iconst (v := nI 1) (pc' := 89) rfl rfl rfl ?_
          first | refine wp_iaddN (pc' := 90) rfl (by with_reducible rfl) (by with_reducible rfl) rfl ?_ | refine wp_iadd (pc' := 90) rfl rfl ?_
          refine wp_iast _ (pc' := 91) rfl (by first | exact TK.k1 hT rfl | exact TK.kk hT rfl | exact TK.r hT rfl | assumption) (by omega) (by with_reducible rfl) (by omega) (by first | decide | assumption | omega) rfl ?_
          refine wp_iload2 (pc' := 92) rfl rfl ?_
          refine wp_iconst (v := nI 1) (pc' := 93) rfl rfl rfl ?_
          first | refine wp_iaddN (pc' := 94) rfl (by with_reducible rfl) (by with_reducible rfl) rfl ?_ | refine wp_iadd (pc' := 94) rfl rfl ?_
          refine wp_iret rfl rfl rfl ?_
          exact kk c hc rfl ⟨h52, h57, by simp only [v1_5, h24, ↓reduceIte]; exact h34⟩ J R2 p2 hT hkp hP2
theorem c_trade {d : Nat} {K : Nat → Nat × Nat} {I : Nat → Nat → Int32} {L : Nat → Nat → Int64} {R : Nat → Nat → Option Nat} {n s : Nat} {Q : Lo → Lm → Prop} {x z y : Int32} {H : Nat} {p : Nat → Nat} {A : Nat} {Ss : Nat → Mem} (hT : TK K R n) (hf : n + 1 ≤ lmCells) (hs : s + 6 ≤ lmSlots) (hP : PastI I R p A Ss) (hr : I 1 14 = 0 ∨ I 1 14 = 1) (hn1 : Nrm (vw 1 I)) (hH : I 1 10 = nI H) (hH6 : H ≤ 6) (kkE : ¬ (InR x H ∧ InR z H) → Q (.inr n) (exM 16 (K, I, L, R, n, s))) (kkA : ∀ h g, h < H → g < H → x = nI h → z = nI g → (nI h = nI g ∨ y < nI 1 ∨ nI 999 < y) → Q (.inr n) (exM 14 (K, I, L, R, n, s))) (kkS : ∀ h g, h < H → g < H → x = nI h → z = nI g → ¬ (nI h = nI g ∨ y < nI 1 ∨ nI 999 < y) → I 9 h < y → Q (.inr n) (exM 18 (K, I, L, R, n, s))) (kk : ∀ h g, h < H → g < H → x = nI h → z = nI g → ¬ (nI h = nI g ∨ y < nI 1 ∨ nI 999 < y) → ¬ I 9 h < y → ∀ J R2 p2, TK K R2 n → Kp I J R R2 → PastI J R2 p2 (pA A) (pS A Ss (vw 1 I)) → Q (.inl (some (.int (addM (up2 J 9 h (J 9 h - y)) 1 g y 9 g)))) (K, addM (up2 J 9 h (J 9 h - y)) 1 g y, L, R2, n, s)) : Ok (d + 4) 142 [.ref 0, .int x, .int z, .int y] (K, I, L, R, n, s) Q := by
  have hb := TK.s1 hT
  obtain ⟨-, -, hn⟩ := id hT
  refine Ok.enter (F := F_142) (ls := [.ref 0, .int x, .int z, .int y]) rfl rfl ?_
  refine wp_aload0 (pc' := 1) rfl rfl ?_
  refine wp_iload1 (pc' := 2) rfl rfl ?_
  refine wp_callV2 (pc' := 5) rfl rfl rfl rfl rfl (by first | exact TK.k1 hT rfl | exact TK.kk hT rfl | exact TK.r hT rfl | assumption) rfl rfl ?_
  refine c_needHearth hT hH hH6 hf hs (fun he => Cont.e rfl (kkE (fun h => he h.1))) (fun h hh hx => ?_)
  subst hx
  refine Cont.u ?_
  refine wp_aload0 (pc' := 6) rfl rfl ?_
  refine wp_iload2 (pc' := 7) rfl rfl ?_
  refine wp_callV2 (pc' := 10) rfl rfl rfl rfl rfl (by first | exact TK.k1 hT rfl | exact TK.kk hT rfl | exact TK.r hT rfl | assumption) rfl rfl ?_
  refine c_needHearth hT hH hH6 hf hs (fun he => Cont.e rfl (kkE (fun h => he h.2))) (fun g hg hx => ?_)
  subst hx
  refine Cont.u ?_
  refine wp_iload1 (pc' := 11) rfl rfl ?_
  refine wp_iload2 (pc' := 12) rfl rfl ?_
  refine wp_icmpeq (pc' := 15) rfl rfl ?_ ?_
  · intro h12
    refine wp_raise (pc := 27) rfl rfl rfl rfl rfl rfl rfl rfl rfl (by decide) (by decide) (by omega) (by omega) rfl ?_
    first | exact kkA h g hh hg rfl rfl (Or.inl (by first | assumption)) | exact kkA h g hh hg rfl rfl (Or.inr (Or.inl (by first | assumption))) | exact kkA h g hh hg rfl rfl (Or.inr (Or.inr (by first | assumption)))
  · intro h12
    refine wp_iload3 (pc' := 16) rfl rfl ?_
    refine wp_iconst (v := nI 1) (pc' := 17) rfl rfl rfl ?_
    refine wp_icmplt (pc' := 20) rfl rfl ?_ ?_
    · intro h17
      refine wp_raise (pc := 27) rfl rfl rfl rfl rfl rfl rfl rfl rfl (by decide) (by decide) (by omega) (by omega) rfl ?_
      first | exact kkA h g hh hg rfl rfl (Or.inl (by first | assumption)) | exact kkA h g hh hg rfl rfl (Or.inr (Or.inl (by first | assumption))) | exact kkA h g hh hg rfl rfl (Or.inr (Or.inr (by first | assumption)))
    · intro h17
      refine wp_iload3 (pc' := 21) rfl rfl ?_
      refine wp_sipush (v := nI 999) (pc' := 24) rfl rfl rfl ?_
      refine wp_icmple (pc' := 27) rfl rfl ?_ ?_
      · intro h24
        refine wp_aload0 (pc' := 39) rfl rfl ?_
        refine wp_getRF (pc' := 42) rfl rfl (by first | exact TK.k1 hT rfl | exact TK.kk hT rfl | exact TK.r hT rfl | assumption) (by first | exact TK.k1 hT rfl | exact TK.kk hT rfl | exact TK.r hT rfl | assumption) rfl ?_
        refine wp_getRF (pc' := 45) rfl rfl (by first | exact TK.k1 hT rfl | exact TK.kk hT rfl | exact TK.r hT rfl | assumption) (by first | exact TK.k1 hT rfl | exact TK.kk hT rfl | exact TK.r hT rfl | assumption) rfl ?_
        refine wp_iload1 (pc' := 46) rfl rfl ?_
        refine wp_iald _ (pc' := 47) rfl (by first | exact TK.k1 hT rfl | exact TK.kk hT rfl | exact TK.r hT rfl | assumption) (by with_reducible rfl) (by omega) (by first | decide | assumption | omega) rfl ?_
        refine wp_iload3 (pc' := 48) rfl rfl ?_
        refine wp_icmpge (pc' := 51) rfl rfl ?_ ?_
        · intro h48
          refine wp_aload0 (pc' := 63) rfl rfl ?_
          refine wp_callV1 (pc' := 66) rfl rfl rfl rfl rfl (by first | exact TK.k1 hT rfl | exact TK.kk hT rfl | exact TK.r hT rfl | assumption) rfl rfl ?_
          refine c_remember hT hP hr hn1 (fun J R2 p2 hT hkp hP2 => ?_)
          have hb := TK.s1 hT
          refine Cont.u ?_
          refine wp_aload0 (pc' := 67) rfl rfl ?_
          refine wp_getRF (pc' := 70) rfl rfl (by first | exact TK.k1 hT rfl | exact TK.kk hT rfl | exact TK.r hT rfl | assumption) (by first | exact TK.k1 hT rfl | exact TK.kk hT rfl | exact TK.r hT rfl | assumption) rfl ?_
          refine wp_getRF (pc' := 73) rfl rfl (by first | exact TK.k1 hT rfl | exact TK.kk hT rfl | exact TK.r hT rfl | assumption) (by first | exact TK.k1 hT rfl | exact TK.kk hT rfl | exact TK.r hT rfl | assumption) rfl ?_
          refine wp_iload1 (pc' := 74) rfl rfl ?_
          refine wp_dup2 (pc' := 75) rfl rfl rfl rfl ?_
          refine wp_iald _ (pc' := 76) rfl (by first | exact TK.k1 hT rfl | exact TK.kk hT rfl | exact TK.r hT rfl | assumption) (by with_reducible rfl) (by omega) (by first | decide | assumption | omega) rfl ?_
          refine wp_iload3 (pc' := 77) rfl rfl ?_
          first | refine wp_isubN (pc' := 78) rfl (by with_reducible rfl) (by with_reducible rfl) (by omega) rfl ?_ | refine wp_isub (pc' := 78) rfl rfl ?_
          refine wp_iast _ (pc' := 79) rfl (by first | exact TK.k1 hT rfl | exact TK.kk hT rfl | exact TK.r hT rfl | assumption) (by omega) (by with_reducible rfl) (by omega) (by first | decide | assumption | omega) rfl ?_
          refine wp_aload0 (pc' := 80) rfl rfl ?_
          refine wp_getRF (pc' := 83) rfl rfl (by first | exact TK.k1 hT rfl | exact TK.kk hT rfl | exact TK.r hT rfl | assumption) (by first | exact TK.k1 hT rfl | exact TK.kk hT rfl | exact TK.r hT rfl | assumption) rfl ?_
          refine wp_iload2 (pc' := 84) rfl rfl ?_
          refine wp_iload3 (pc' := 85) rfl rfl ?_
          refine wp_callV3 (pc' := 88) rfl rfl rfl rfl rfl (by first | exact TK.k1 hT rfl | exact TK.kk hT rfl | exact TK.r hT rfl | assumption) rfl rfl ?_
          refine c_addToStore hb (by omega) ?_
          refine Cont.u ?_
          refine wp_aload0 (pc' := 89) rfl rfl ?_
          refine wp_getRF (pc' := 92) rfl rfl (by first | exact TK.k1 hT rfl | exact TK.kk hT rfl | exact TK.r hT rfl | assumption) (by first | exact TK.k1 hT rfl | exact TK.kk hT rfl | exact TK.r hT rfl | assumption) rfl ?_
          refine wp_getRF (pc' := 95) rfl rfl (by first | exact TK.k1 hT rfl | exact TK.kk hT rfl | exact TK.r hT rfl | assumption) (by first | exact TK.k1 hT rfl | exact TK.kk hT rfl | exact TK.r hT rfl | assumption) rfl ?_
          refine wp_iload2 (pc' := 96) rfl rfl ?_
          refine wp_iald _ (pc' := 97) rfl (by first | exact TK.k1 hT rfl | exact TK.kk hT rfl | exact TK.r hT rfl | assumption) (by with_reducible rfl) (by omega) (by first | decide | assumption | omega) rfl ?_
          refine wp_iret rfl rfl rfl ?_
          exact kk h g hh hg rfl rfl (by simp_all) (by first | assumption) J R2 p2 hT hkp hP2
        · intro h48
          refine wp_raise (pc := 51) rfl rfl rfl rfl rfl rfl rfl rfl rfl (by decide) (by decide) (by omega) (by omega) rfl ?_
          exact kkS h g hh hg rfl rfl (by simp_all) (by first | assumption)
      · intro h24
        refine wp_raise (pc := 27) rfl rfl rfl rfl rfl rfl rfl rfl rfl (by decide) (by decide) (by omega) (by omega) rfl ?_
        first | exact kkA h g hh hg rfl rfl (Or.inl (by first | assumption)) | exact kkA h g hh hg rfl rfl (Or.inr (Or.inl (by first | assumption))) | exact kkA h g hh hg rfl rfl (Or.inr (Or.inr (by first | assumption)))
theorem c_sky {d : Nat} {K : Nat → Nat × Nat} {I : Nat → Nat → Int32} {L : Nat → Nat → Int64} {R : Nat → Nat → Option Nat} {n s : Nat} {Q : Lo → Lm → Prop} {x : Int32} {b : Prop} [Decidable b] {p : Nat → Nat} {A : Nat} {Ss : Nat → Mem} (hT : TK K R n) (hf : n + 1 ≤ lmCells) (hs : s + 6 ≤ lmSlots) (hP : PastI I R p A Ss) (hr : I 1 14 = 0 ∨ I 1 14 = 1) (hn1 : Nrm (vw 1 I)) (kkE : ¬ InR x 10 → Q (.inr n) (exM 14 (K, I, L, R, n, s))) (kk : InR x 10 → ∀ J R2 p2, TK K R2 n → Kp I J R R2 → PastI J R2 p2 (pA A) (pS A Ss (vw 1 I)) → Q (.inl (some (.int (J 1 12)))) (K, up2 (up2 J 1 12 x) 1 14 (if b then nI 1 else nI 0), L, R2, n, s)) : Ok (d + 4) 144 [.ref 0, .int x, .int (if b then nI 1 else nI 0)] (K, I, L, R, n, s) Q := by
  have hb := TK.s1 hT
  obtain ⟨-, -, hn⟩ := id hT
  refine Ok.enter (F := F_144) (ls := [.ref 0, .int x, .int (if b then nI 1 else nI 0), lDead]) rfl rfl ?_
  refine wp_iload1 (pc' := 1) rfl rfl ?_
  refine wp_iflt (pc' := 4) rfl rfl ?_ ?_
  · intro h1
    refine wp_raise (pc := 10) rfl rfl rfl rfl rfl rfl rfl rfl rfl (by decide) (by decide) (by omega) (by omega) rfl ?_
    first | exact kkE (InR_neg (by decide) (by first | assumption)) | exact kkE (InR_gt (by decide) (by first | assumption))
  · intro h1
    refine wp_iload1 (pc' := 5) rfl rfl ?_
    refine wp_bipush (v := nI 9) (pc' := 7) rfl rfl rfl ?_
    refine wp_icmple (pc' := 10) rfl rfl ?_ ?_
    · intro h7
      refine wp_aload0 (pc' := 22) rfl rfl ?_
      refine wp_callV1 (pc' := 25) rfl rfl rfl rfl rfl (by first | exact TK.k1 hT rfl | exact TK.kk hT rfl | exact TK.r hT rfl | assumption) rfl rfl ?_
      refine c_remember hT hP hr hn1 (fun J R2 p2 hT hkp hP2 => ?_)
      have hb := TK.s1 hT
      refine Cont.u ?_
      refine wp_aload0 (pc' := 26) rfl rfl ?_
      refine wp_getRF (pc' := 29) rfl rfl (by first | exact TK.k1 hT rfl | exact TK.kk hT rfl | exact TK.r hT rfl | assumption) (by first | exact TK.k1 hT rfl | exact TK.kk hT rfl | exact TK.r hT rfl | assumption) rfl ?_
      refine wp_getI (pc' := 32) rfl rfl (by first | exact TK.k1 hT rfl | exact TK.kk hT rfl | exact TK.r hT rfl | assumption) rfl ?_
      refine wp_istore3 (pc' := 33) rfl (by first | rfl | assumption) rfl ?_
      refine wp_aload0 (pc' := 34) rfl rfl ?_
      refine wp_getRF (pc' := 37) rfl rfl (by first | exact TK.k1 hT rfl | exact TK.kk hT rfl | exact TK.r hT rfl | assumption) (by first | exact TK.k1 hT rfl | exact TK.kk hT rfl | exact TK.r hT rfl | assumption) rfl ?_
      refine wp_iload1 (pc' := 38) rfl rfl ?_
      refine wp_putI (pc' := 41) rfl rfl (by first | exact TK.k1 hT rfl | exact TK.kk hT rfl | exact TK.r hT rfl | assumption) (by omega) rfl ?_
      refine wp_aload0 (pc' := 42) rfl rfl ?_
      refine wp_getRF (pc' := 45) rfl rfl (by first | exact TK.k1 hT rfl | exact TK.kk hT rfl | exact TK.r hT rfl | assumption) (by first | exact TK.k1 hT rfl | exact TK.kk hT rfl | exact TK.r hT rfl | assumption) rfl ?_
      refine wp_iload2 (pc' := 46) rfl rfl ?_
      refine wp_putZ (pc' := 49) rfl rfl (by first | exact TK.k1 hT rfl | exact TK.kk hT rfl | exact TK.r hT rfl | assumption) (by omega) if01 rfl ?_
      refine wp_iload3 (pc' := 50) rfl rfl ?_
      refine wp_iret rfl rfl rfl ?_
      exact kk (InR_le (by decide) (by first | assumption) (by first | assumption)) J R2 p2 hT hkp hP2
    · intro h7
      refine wp_raise (pc := 10) rfl rfl rfl rfl rfl rfl rfl rfl rfl (by decide) (by decide) (by omega) (by omega) rfl ?_
      first | exact kkE (InR_neg (by decide) (by first | assumption)) | exact kkE (InR_gt (by decide) (by first | assumption))
