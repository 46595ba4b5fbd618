/-! A LAW MADE; law() -/
def NewA (K : Nat → Nat × Nat) (I : Mem) (L : Nat → Nat → Int64) (R : Nat → Nat → Option Nat) (n m : Nat) (f : Nat → Int32) (K2 : Nat → Nat × Nat) (I2 : Mem) (L2 : Nat → Nat → Int64) (R2 : Nat → Nat → Option Nat) : Prop :=
  (∀ a, a ≠ n → K2 a = K a ∧ I2 a = I a ∧ L2 a = L a ∧ R2 a = R a) ∧ K2 n = (50, m) ∧ ∀ j, j < m → I2 n j = f j
theorem TK_newA {K : Nat → Nat × Nat} {I : Mem} {L : Nat → Nat → Int64} {R : Nat → Nat → Option Nat} {n n2 m : Nat} {f : Nat → Int32} {K2 : Nat → Nat × Nat} {I2 : Mem} {L2 : Nat → Nat → Int64} {R2 : Nat → Nat → Option Nat} (h : TK K R n) (hn : n ≤ n2) (e : NewA K I L R n2 m f K2 I2 L2 R2) : TK K2 R2 (n2 + 1) := by
  have hk : ∀ a k, k0 a = some k → a < 338 := fun a k hk => by
    by_cases q : a < 338
    · exact q
    · exfalso
      unfold k0 at hk
      rw [blt_f (by omega), blt_f (by omega), blt_f (by omega), blt_f (by omega), blt_f (by omega), blt_f (by omega), blt_f (by omega)] at hk
      have : ∀ (l : List (Nat × Nat)) i, l.length ≤ i → nthO l i = none := by
        intro l
        induction l with
        | nil => intro i _; rfl
        | cons x l ih => intro i hi; cases i with
          | zero => simp at hi
          | succ i => exact ih i (by simpa using hi)
      simp only [cond_false] at hk
      rw [this _ _ (by show 20 ≤ a - 318; omega)] at hk; cases hk
  have hr : ∀ a j b, r0 a j = some b → a < 338 := fun a j b hb => by
    by_cases q : a < 338
    · exact q
    · exfalso
      unfold r0 at hb
      rw [beq_f (x := a) (y := 0) (by omega), beq_f (x := a) (y := 1) (by omega), beq_f (x := a) (y := 11) (by omega), beq_f (x := a) (y := 13) (by omega), beq_f (x := a) (y := 23) (by omega), beq_f (x := a) (y := 25) (by omega), beq_f (x := a) (y := 35) (by omega), beq_f (x := a) (y := 39) (by omega), beq_f (x := a) (y := 40) (by omega), beq_f (x := a) (y := 41) (by omega), beq_f (x := a) (y := 46) (by omega), beq_f (x := a) (y := 49) (by omega), beq_f (x := a) (y := 66) (by omega), beq_f (x := a) (y := 69) (by omega), beq_f (x := a) (y := 70) (by omega), beq_f (x := a) (y := 172) (by omega), blt_f (x := a) (y := 174) (by omega), blt_f (x := a) (y := 318) (by omega), beq_f (x := a) (y := 318) (by omega)] at hb
      cases hb
  have hl := h.2.2
  refine ⟨fun a k q => ?_, fun a j b q => ?_, by omega⟩
  · rw [(e.1 a (by have := hk a k q; omega)).1]; exact h.1 a k q
  · rw [(e.1 a (by have := hr a j b q; omega)).2.2.2]; exact h.2.1 a j b q
theorem wp_copyM {d : Nat} {F : Lf} {pc pc' k len : Nat} {z : Int} {ts : List Nat} {ls r : List Value} {Q : Lo → Lm → Prop} {K : Nat → Nat × Nat} {I : Mem} {L : Nat → Nat → Int64} {R : Nat → Nat → Option Nat} {n s a b w m u v : Nat}
    (hc : lc_at pc F.2.2.2.2.2 = some ((23, 2, k, z, ts), len)) (hl : F.2.2.2.2.1 k = some (53, u, v)) (hr : Nat.ble r.length 12 = true) (hka : K a = (50, w)) (hkb : K b = (50, m)) (ha : a < n) (hb : b < n) (hab : a ≠ b) (hm : m ≤ w) (hw : w < 2 ^ 31) (hp : pc + 3 = pc')
    (kk : WP d F pc' ls r (K, upr I b (va_cpy (I a) (I b) 0 0 m), L, R, n, s) Q) : WP d F pc ls (.int (nI m) :: .int (nI 0) :: .ref b :: .int (nI 0) :: .ref a :: r) (K, I, L, R, n, s) Q := by
  refine wp_copy hc hl hr ?_ hp kk
  have e0 : (nI 0).toNatClampNeg = 0 := by decide
  have h0 : decide (¬ nI 0 < 0) = true := by decide
  show (bif Nat.beq (K a).1 50 && Nat.beq (K b).1 50 && Nat.blt a n && Nat.blt b n && !(Nat.beq a b) && decide (¬ nI 0 < 0) && decide (¬ nI 0 < 0) && decide (¬ nI m < 0) && Nat.ble ((nI 0).toNatClampNeg + (nI m).toNatClampNeg) (K a).2 && Nat.ble ((nI 0).toNatClampNeg + (nI m).toNatClampNeg) (K b).2
    then some (K, upr I b (va_cpy (I a) (I b) (nI 0).toNatClampNeg (nI 0).toNatClampNeg (nI m).toNatClampNeg), L, R, n, s) else none) = _
  rw [hka, hkb, Nat.blt_eq.mpr ha, Nat.blt_eq.mpr hb, beq_f hab, h0, e0, nI_clamp (by omega), decide_eq_true (nI_pos (by omega))]
  have e1 : Nat.ble (0 + m) w = true := Nat.ble_eq_true_of_le (by omega)
  have e2 : Nat.ble (0 + m) m = true := Nat.ble_eq_true_of_le (by omega)
  dsimp only
  rw [e1, e2]; rfl
theorem c_copyOf {d : Nat} {K : Nat → Nat × Nat} {I : Mem} {L : Nat → Nat → Int64} {R : Nat → Nat → Option Nat} {n s : Nat} {Q : Lo → Lm → Prop} {a w m : Nat} (ha : K a = (50, w)) (han : a < n) (hm : m ≤ w) (hw : w ≤ 65536) (hf : n + 1 ≤ lmCells) (hs : s + m ≤ lmSlots) (kk : ∀ K2 I2 L2 R2, NewA K I L R n m (I a) K2 I2 L2 R2 → Q (.inl (some (.ref n))) (K2, I2, L2, R2, n + 1, s + m)) : Ok (d + 1) 105 [.ref a, .int (nI m)] (K, I, L, R, n, s) Q := by
  refine Ok.enter (F := F_105) (ls := [.ref a, .int (nI m), lDead]) rfl rfl ?_
  refine wp_iload1 (pc' := 1) rfl rfl ?_
  refine wp_aload0 (pc' := 2) rfl rfl ?_
  refine wp_alen (pc' := 3) rfl ha rfl rfl rfl ?_
  refine wp_icmpne (pc' := 6) rfl rfl ?_ ?_
  · intro hne
    refine wp_iload1 (pc' := 15) rfl rfl ?_
    refine wp_newa (pc' := 17) rfl rfl (by omega) hf hs rfl ?_
    refine wp_astore2 (pc' := 18) rfl rfl rfl ?_
    refine wp_aload0 (pc' := 19) rfl rfl ?_
    refine wp_iconst (v := nI 0) (pc' := 20) rfl rfl rfl ?_
    refine wp_aload2 (pc' := 21) rfl rfl ?_
    refine wp_iconst (v := nI 0) (pc' := 22) rfl rfl rfl ?_
    refine wp_aload0 (pc' := 23) rfl rfl ?_
    refine wp_alen (w := w) (ki := 50) (pc' := 24) rfl (by rw [up1_ne (by show a ≠ n; omega)]; exact ha) rfl rfl rfl ?_
    refine wp_iload1 (pc' := 25) rfl rfl ?_
    refine wp_min (pc' := 28) rfl rfl rfl rfl ?_
    rw [nI_min (by omega) (by omega), Nat.min_eq_right hm]
    refine wp_copyM (pc' := 31) (w := w) (m := m) rfl rfl rfl (by rw [up1_ne (by show a ≠ n; omega)]; exact ha) up1_hit (by show a < n + 1; omega) (by show n < n + 1; omega) (by show a ≠ n; omega) hm (by omega) rfl ?_
    refine wp_aload2 (pc' := 32) rfl rfl ?_
    refine wp_aret rfl rfl ?_
    refine kk _ _ _ _ ⟨fun b hb => ⟨up1_ne hb, ?_, upr_ne hb, upr_ne hb⟩, up1_hit, fun j hj => ?_⟩
    · show upr (upr I n _) n _ b = _
      rw [upr_ne hb, upr_ne hb]
    · show upr (upr I n _) n (va_cpy (upr I n _ a) _ 0 0 m) n j = _
      rw [upr_same, upr_ne (by omega)]
      unfold va_cpy
      rw [if_pos ⟨by omega, by omega⟩]; congr 1; omega
  · intro he
    have hmw : m = w := eq_nI he (by omega) (by omega)
    subst hmw
    refine wp_aload0 (pc' := 7) rfl rfl ?_
    refine wp_clone (pc' := 10) rfl rfl rfl ha han hf hs rfl ?_
    refine wp_cast (w := m) (pc' := 13) rfl rfl (by show up1 K n (K a) n = _; rw [up1_hit]; exact ha) (by show n < n + 1; omega) rfl ?_
    refine wp_aret rfl rfl ?_
    show Q _ (up1 K n (K a), upr I n (I a), upr L n _, upr R n _, n + 1, s + (K a).2)
    rw [show (K a).2 = m by rw [ha]]
    exact kk _ _ _ _ ⟨fun b hb => ⟨up1_ne hb, upr_ne hb, upr_ne hb, upr_ne hb⟩, by rw [up1_hit]; exact ha, fun j hj => by rw [upr_same]⟩
theorem r0_338 {a j b : Nat} (hb : r0 a j = some b) : a < 338 := by
  by_cases q : a < 338
  · exact q
  · exfalso
    unfold r0 at hb
    rw [beq_f (x := a) (y := 0) (by omega), beq_f (x := a) (y := 1) (by omega), beq_f (x := a) (y := 11) (by omega), beq_f (x := a) (y := 13) (by omega), beq_f (x := a) (y := 23) (by omega), beq_f (x := a) (y := 25) (by omega), beq_f (x := a) (y := 35) (by omega), beq_f (x := a) (y := 39) (by omega), beq_f (x := a) (y := 40) (by omega), beq_f (x := a) (y := 41) (by omega), beq_f (x := a) (y := 46) (by omega), beq_f (x := a) (y := 49) (by omega), beq_f (x := a) (y := 66) (by omega), beq_f (x := a) (y := 69) (by omega), beq_f (x := a) (y := 70) (by omega), beq_f (x := a) (y := 172) (by omega), blt_f (x := a) (y := 174) (by omega), blt_f (x := a) (y := 318) (by omega), beq_f (x := a) (y := 318) (by omega)] at hb
    cases hb
theorem k0_338 {a : Nat} {k : Nat × Nat} (hk : k0 a = some k) : a < 338 := by
  by_cases q : a < 338
  · exact q
  · exfalso
    unfold k0 at hk
    rw [blt_f (by omega), blt_f (by omega), blt_f (by omega), blt_f (by omega), blt_f (by omega), blt_f (by omega), blt_f (by omega)] at hk
    have : ∀ (l : List (Nat × Nat)) i, l.length ≤ i → nthO l i = none := by
      intro l
      induction l with
      | nil => intro i _; rfl
      | cons x l ih => intro i hi; cases i with
        | zero => simp at hi
        | succ i => exact ih i (by simpa using hi)
    simp only [cond_false] at hk
    rw [this _ _ (by show 20 ≤ a - 318; omega)] at hk; cases hk
theorem lw_J5 {J : Mem} {st : Sz} {p : Nat} : lw J st p 41 5 = J 41 5 := by
  unfold lw; rw [rdM_o (by decide)]; unfold lw0; rw [up2_same, if_neg (by decide), upr_ne (by decide)]

def LawNew (K : Nat → Nat × Nat) (I : Mem) (L : Nat → Nat → Int64) (R : Nat → Nat → Option Nat) (n la m z : Nat) (K2 : Nat → Nat × Nat) (I2 : Mem) (L2 : Nat → Nat → Int64) (R2 : Nat → Nat → Option Nat) : Prop :=
  (∀ a, ¬ (n ≤ a ∧ a < n + 5) → K2 a = K a ∧ L2 a = L a ∧ (a ≠ la → I2 a = I a ∧ R2 a = R a)) ∧ I2 la 0 = nI m ∧
  (K2 n = (50, m) ∧ K2 (n + 1) = (50, m) ∧ K2 (n + 2) = (50, m + 1) ∧ K2 (n + 3) = (50, z) ∧ K2 (n + 4) = (50, z + 1)) ∧
  (R2 la 1 = some n ∧ R2 la 2 = some (n + 1) ∧ R2 la 3 = some (n + 2) ∧ R2 la 4 = some (n + 3) ∧ R2 la 5 = some (n + 4)) ∧
  (∀ j, j < m → I2 n j = I 42 j) ∧ (∀ j, j < m → I2 (n + 1) j = I 43 j) ∧ (∀ j, j < m + 1 → I2 (n + 2) j = I 44 j) ∧ (∀ j, j < z → I2 (n + 3) j = I 45 j)
theorem TK_r {K : Nat → Nat × Nat} {R : Nat → Nat → Option Nat} {n a k : Nat} {v : Option Nat} (h : TK K R n) (ha : 338 ≤ a) : TK K (up2 R a k v) n := by
  refine ⟨h.1, fun b j x hx => ?_, h.2.2⟩
  have : b < 338 := r0_338 hx
  rw [up2_row (by omega)]; exact h.2.1 b j x hx
theorem TK_lawNew {K : Nat → Nat × Nat} {I : Mem} {L : Nat → Nat → Int64} {R : Nat → Nat → Option Nat} {n n2 la m z : Nat} {K2 : Nat → Nat × Nat} {I2 : Mem} {L2 : Nat → Nat → Int64} {R2 : Nat → Nat → Option Nat} (h : TK K R n) (hn : n ≤ n2) (e : LawNew K I L R n2 la m z K2 I2 L2 R2) (hla : 338 ≤ la := by omega) : TK K2 R2 (n2 + 5) := by
  have hl := h.2.2
  refine ⟨fun a k q => ?_, fun a j b q => ?_, by omega⟩
  · rw [(e.1 a (by have := k0_338 q; omega)).1]; exact h.1 a k q
  · rw [((e.1 a (by have := r0_338 q; omega)).2.2 (by have := r0_338 q; omega)).2]; exact h.2.1 a j b q
theorem c_lawInit {d : Nat} {K : Nat → Nat × Nat} {I : Nat → Nat → Int32} {L : Nat → Nat → Int64} {R : Nat → Nat → Option Nat} {n s : Nat} {Q : Lo → Lm → Prop} {la m z : Nat} (hT : TK K R n) (hla : 338 ≤ la) (han : la < n) (kla : (K la).1 = 7) (h5 : I 41 5 = nI m) (hm : m ≤ 12) (h6 : I 41 6 = nI z) (hz : z ≤ 400) (hf : n + 5 ≤ lmCells) (hs : s + 860 ≤ lmSlots) (kk : ∀ K2 I2 L2 R2, LawNew K I L R n la m z K2 I2 L2 R2 → Q (.inl none) (K2, I2, L2, R2, n + 5, s + (m + m + (m + 1) + z + (z + 1)))) : Ok (d + 2) 104 [.ref la, .ref 41] (K, I, L, R, n, s) Q := by
  obtain ⟨-, -, hn⟩ := id hT
  refine Ok.enter (F := F_104) (ls := [.ref la, .ref 41]) rfl rfl ?_
  refine wp_aload0 (pc' := 1) rfl rfl ?_
  refine wp_obj (pc' := 4) rfl rfl rfl rfl ?_
  refine wp_aload0 (pc' := 5) rfl rfl ?_
  refine wp_aload1 (pc' := 6) rfl rfl ?_
  refine wp_getI (pc' := 9) rfl rfl (by first | exact TK.k1 hT rfl | exact TK.kk hT rfl | exact TK.r hT rfl | assumption) rfl ?_
  rw [h5]
  refine wp_putIF (pc' := 12) rfl rfl (by first | exact TK.k1 hT rfl | exact TK.kk hT rfl | exact TK.r hT rfl | assumption) (by omega) rfl rfl rfl ?_
  skip
  refine wp_aload0 (pc' := 13) rfl rfl ?_
  refine wp_aload1 (pc' := 14) rfl rfl ?_
  refine wp_getRF (pc' := 17) rfl rfl (by first | exact TK.k1 hT rfl | exact TK.kk hT rfl | exact TK.r hT rfl | assumption) (by first | exact TK.k1 hT rfl | exact TK.kk hT rfl | exact TK.r hT rfl | assumption) rfl ?_
  refine wp_aload1 (pc' := 18) rfl rfl ?_
  refine wp_getI (pc' := 21) rfl rfl (by first | exact TK.k1 hT rfl | exact TK.kk hT rfl | exact TK.r hT rfl | assumption) rfl ?_
  rw [up2_row (show 41 ≠ la by omega), h5]
  refine wp_callS2 (pc' := 24) rfl rfl rfl rfl rfl rfl ?_
  refine c_copyOf (TK.kk hT rfl) (by omega) (by omega) (by decide) (by omega) (by omega) (fun K1 I1 L1 R1 hN1 => ?_)
  have hT := TK_newA hT (Nat.le_refl _) hN1
  have kla : (K1 la).1 = 7 := by rw [(hN1.1 la (by omega)).1]; exact kla
  have hn : 338 ≤ n + 1 := by omega
  refine Cont.v ?_
  refine wp_putRF (pc' := 27) rfl rfl (by first | exact TK.k1 hT rfl | exact TK.kk hT rfl | exact TK.r hT rfl | assumption) (by omega) rfl rfl rfl ?_
  have hT := TK_r (a := la) (k := 1) (v := some n) hT hla
  refine wp_aload0 (pc' := 28) rfl rfl ?_
  refine wp_aload1 (pc' := 29) rfl rfl ?_
  refine wp_getRF (pc' := 32) rfl rfl (by first | exact TK.k1 hT rfl | exact TK.kk hT rfl | exact TK.r hT rfl | assumption) (by first | exact TK.k1 hT rfl | exact TK.kk hT rfl | exact TK.r hT rfl | assumption) rfl ?_
  refine wp_aload1 (pc' := 33) rfl rfl ?_
  refine wp_getI (pc' := 36) rfl rfl (by first | exact TK.k1 hT rfl | exact TK.kk hT rfl | exact TK.r hT rfl | assumption) rfl ?_
  rw [(hN1.1 41 (by omega)).2.1, up2_row (show 41 ≠ la by omega), h5]
  refine wp_callS2 (pc' := 39) rfl rfl rfl rfl rfl rfl ?_
  refine c_copyOf (TK.kk hT rfl) (by omega) (by omega) (by decide) (by omega) (by omega) (fun K2 I2 L2 R2 hN2 => ?_)
  have hT := TK_newA hT (Nat.le_refl _) hN2
  have kla : (K2 la).1 = 7 := by rw [(hN2.1 la (by omega)).1]; exact kla
  have hn : 338 ≤ n + 2 := by omega
  refine Cont.v ?_
  refine wp_putRF (pc' := 42) rfl rfl (by first | exact TK.k1 hT rfl | exact TK.kk hT rfl | exact TK.r hT rfl | assumption) (by omega) rfl rfl rfl ?_
  have hT := TK_r (a := la) (k := 2) (v := some (n + 1)) hT hla
  refine wp_aload0 (pc' := 43) rfl rfl ?_
  refine wp_aload1 (pc' := 44) rfl rfl ?_
  refine wp_getRF (pc' := 47) rfl rfl (by first | exact TK.k1 hT rfl | exact TK.kk hT rfl | exact TK.r hT rfl | assumption) (by first | exact TK.k1 hT rfl | exact TK.kk hT rfl | exact TK.r hT rfl | assumption) rfl ?_
  refine wp_aload1 (pc' := 48) rfl rfl ?_
  refine wp_getI (pc' := 51) rfl rfl (by first | exact TK.k1 hT rfl | exact TK.kk hT rfl | exact TK.r hT rfl | assumption) rfl ?_
  rw [(hN2.1 41 (by omega)).2.1, (hN1.1 41 (by omega)).2.1, up2_row (show 41 ≠ la by omega), h5]
  refine wp_iconst (v := nI 1) (pc' := 52) rfl rfl rfl ?_
  first | refine wp_iaddN (pc' := 53) rfl (by with_reducible rfl) (by with_reducible rfl) rfl ?_ | refine wp_iadd (pc' := 53) rfl rfl ?_
  refine wp_callS2 (pc' := 56) rfl rfl rfl rfl rfl rfl ?_
  refine c_copyOf (TK.kk hT rfl) (by omega) (by omega) (by decide) (by omega) (by omega) (fun K3 I3 L3 R3 hN3 => ?_)
  have hT := TK_newA hT (Nat.le_refl _) hN3
  have kla : (K3 la).1 = 7 := by rw [(hN3.1 la (by omega)).1]; exact kla
  have hn : 338 ≤ n + 3 := by omega
  refine Cont.v ?_
  refine wp_putRF (pc' := 59) rfl rfl (by first | exact TK.k1 hT rfl | exact TK.kk hT rfl | exact TK.r hT rfl | assumption) (by omega) rfl rfl rfl ?_
  have hT := TK_r (a := la) (k := 3) (v := some (n + 1 + 1)) hT hla
  refine wp_aload0 (pc' := 60) rfl rfl ?_
  refine wp_aload1 (pc' := 61) rfl rfl ?_
  refine wp_getRF (pc' := 64) rfl rfl (by first | exact TK.k1 hT rfl | exact TK.kk hT rfl | exact TK.r hT rfl | assumption) (by first | exact TK.k1 hT rfl | exact TK.kk hT rfl | exact TK.r hT rfl | assumption) rfl ?_
  refine wp_aload1 (pc' := 65) rfl rfl ?_
  refine wp_getI (pc' := 68) rfl rfl (by first | exact TK.k1 hT rfl | exact TK.kk hT rfl | exact TK.r hT rfl | assumption) rfl ?_
  rw [(hN3.1 41 (by omega)).2.1, (hN2.1 41 (by omega)).2.1, (hN1.1 41 (by omega)).2.1, up2_row (show 41 ≠ la by omega), h6]
  refine wp_callS2 (pc' := 71) rfl rfl rfl rfl rfl rfl ?_
  refine c_copyOf (TK.kk hT rfl) (by omega) (by omega) (by decide) (by omega) (by omega) (fun K4 I4 L4 R4 hN4 => ?_)
  have hT := TK_newA hT (Nat.le_refl _) hN4
  have kla : (K4 la).1 = 7 := by rw [(hN4.1 la (by omega)).1]; exact kla
  have hn : 338 ≤ n + 4 := by omega
  refine Cont.v ?_
  refine wp_putRF (pc' := 74) rfl rfl (by first | exact TK.k1 hT rfl | exact TK.kk hT rfl | exact TK.r hT rfl | assumption) (by omega) rfl rfl rfl ?_
  have hT := TK_r (a := la) (k := 4) (v := some (n + 1 + 1 + 1)) hT hla
  refine wp_aload0 (pc' := 75) rfl rfl ?_
  refine wp_aload1 (pc' := 76) rfl rfl ?_
  refine wp_getI (pc' := 79) rfl rfl (by first | exact TK.k1 hT rfl | exact TK.kk hT rfl | exact TK.r hT rfl | assumption) rfl ?_
  rw [(hN4.1 41 (by omega)).2.1, (hN3.1 41 (by omega)).2.1, (hN2.1 41 (by omega)).2.1, (hN1.1 41 (by omega)).2.1, up2_row (show 41 ≠ la by omega), h6]
  refine wp_iconst (v := nI 1) (pc' := 80) rfl rfl rfl ?_
  first | refine wp_iaddN (pc' := 81) rfl (by with_reducible rfl) (by with_reducible rfl) rfl ?_ | refine wp_iadd (pc' := 81) rfl rfl ?_
  refine wp_newa (pc' := 83) rfl rfl (by omega) (by omega) (by omega) rfl ?_
  refine wp_putRF (pc' := 86) rfl rfl (show (up1 K4 (n + 1 + 1 + 1 + 1) (50, z + 1) la).1 = 7 by rw [up1_ne (by omega)]; exact kla) (by show la < n + 1 + 1 + 1 + 1 + 1; omega) rfl rfl rfl ?_
  refine wp_vret rfl rfl ?_
  have E : ∀ a, ¬ (n ≤ a ∧ a < n + 5) → (K4 a = K a ∧ I4 a = up2 I la 0 (nI m) a ∧ L4 a = L a) := fun a ha => ⟨by rw [(hN4.1 a (by omega)).1, (hN3.1 a (by omega)).1, (hN2.1 a (by omega)).1, (hN1.1 a (by omega)).1], by rw [(hN4.1 a (by omega)).2.1, (hN3.1 a (by omega)).2.1, (hN2.1 a (by omega)).2.1, (hN1.1 a (by omega)).2.1], by rw [(hN4.1 a (by omega)).2.2.1, (hN3.1 a (by omega)).2.2.1, (hN2.1 a (by omega)).2.2.1, (hN1.1 a (by omega)).2.2.1]⟩
  have ER : ∀ a, a ≠ la → ¬ (n ≤ a ∧ a < n + 5) → R4 a = R a := fun a h1 ha => by rw [(hN4.1 a (by omega)).2.2.2, up2_row h1, (hN3.1 a (by omega)).2.2.2, up2_row h1, (hN2.1 a (by omega)).2.2.2, up2_row h1, (hN1.1 a (by omega)).2.2.2]
  have r4 : R4 la = up2 R3 la 3 (some (n + 1 + 1)) la := (hN4.1 la (by omega)).2.2.2
  have r3 : R3 la = up2 R2 la 2 (some (n + 1)) la := (hN3.1 la (by omega)).2.2.2
  have r2 : R2 la = up2 R1 la 1 (some n) la := (hN2.1 la (by omega)).2.2.2
  have x41 : ∀ a, a < 338 → up2 I la 0 (nI m) a = I a := fun a ha => up2_row (by omega)
  refine Qu (kk (up1 K4 (n + 4) (50, z + 1)) (upr I4 (n + 4) (fun _ => 0)) (upr L4 (n + 4) (fun _ => 0)) (up2 (upr (up2 R4 la 4 (some (n + 3))) (n + 4) (fun _ => none)) la 5 (some (n + 4))) ?_) (by rw [show s + (m + m + (m + 1) + z + (z + 1)) = s + m + m + (m + 1) + z + (z + 1) by omega])
  refine ⟨fun a ha => ⟨?_, ?_, fun hl => ⟨?_, ?_⟩⟩, ?_, ⟨?_, ?_, ?_, ?_, ?_⟩, ⟨?_, ?_, ?_, ?_, ?_⟩, fun j hj => ?_, fun j hj => ?_, fun j hj => ?_, fun j hj => ?_⟩
  · exact (up1_ne (by omega)).trans (E a ha).1
  · exact (upr_ne (by omega)).trans (E a ha).2.2
  · exact (upr_ne (by omega)).trans ((E a ha).2.1.trans (up2_row hl))
  · exact (up2_row hl).trans ((upr_ne (by omega)).trans ((up2_row hl).trans (ER a hl ha)))
  · exact (congrFun (upr_ne (by omega)) 0).trans (by rw [(E la (by omega)).2.1]; exact up2_hit)
  · exact (up1_ne (by omega)).trans (by rw [(hN4.1 n (by omega)).1, (hN3.1 n (by omega)).1, (hN2.1 n (by omega)).1]; exact hN1.2.1)
  · exact (up1_ne (by omega)).trans (by rw [(hN4.1 (n + 1) (by omega)).1, (hN3.1 (n + 1) (by omega)).1]; exact hN2.2.1)
  · exact (up1_ne (by omega)).trans (by rw [(hN4.1 (n + 2) (by omega)).1]; exact hN3.2.1)
  · exact (up1_ne (by omega)).trans hN4.2.1
  · exact up1_hit
  · rw [up2_same, if_neg (by decide), upr_ne (by omega), up2_same, if_neg (by decide), r4, up2_same, if_neg (by decide), r3, up2_same, if_neg (by decide), r2, up2_same, if_pos rfl]
  · rw [up2_same, if_neg (by decide), upr_ne (by omega), up2_same, if_neg (by decide), r4, up2_same, if_neg (by decide), r3, up2_same, if_pos rfl]
  · rw [up2_same, if_neg (by decide), upr_ne (by omega), up2_same, if_neg (by decide), r4, up2_same, if_pos rfl]
  · rw [up2_same, if_neg (by decide), upr_ne (by omega), up2_same, if_pos rfl]
  · exact up2_hit
  · rw [upr_ne (by omega), (hN4.1 n (by omega)).2.1, (hN3.1 n (by omega)).2.1, (hN2.1 n (by omega)).2.1, hN1.2.2 j hj, x41 42 (by decide)]
  · rw [upr_ne (by omega), (hN4.1 (n + 1) (by omega)).2.1, (hN3.1 (n + 1) (by omega)).2.1, hN2.2.2 j hj, (hN1.1 43 (by omega)).2.1, x41 43 (by decide)]
  · rw [upr_ne (by omega), (hN4.1 (n + 2) (by omega)).2.1, hN3.2.2 j hj, (hN2.1 44 (by omega)).2.1, (hN1.1 44 (by omega)).2.1, x41 44 (by decide)]
  · rw [upr_ne (by omega), hN4.2.2 j hj, (hN3.1 45 (by omega)).2.1, (hN2.1 45 (by omega)).2.1, (hN1.1 45 (by omega)).2.1, x41 45 (by decide)]
def lwR (I : Mem) (tv : Nat → Nat) (T : Nat) : Rw := lawA tv T (B0 I T) (skp tv T 0)
theorem lawL_in {tv : Nat → Nat} {T : Nat} : ∀ f i I st p b J st2 q, i + f ≤ 12 → I 41 5 = nI i → lawL tv T f i I st p = (b, J, st2, q) → (∀ a, a ≠ 41 → a ≠ 42 → a ≠ 43 → a ≠ 44 → J a = I a) ∧ ∃ m, m ≤ 12 ∧ J 41 5 = nI m := by
  intro f
  induction f with
  | zero => intro i I st p b J st2 q hi h5 e; cases e; exact ⟨fun _ _ _ _ _ => rfl, i, by omega, h5⟩
  | succ f ih =>
    intro i I st p b J st2 q hi h5 e
    unfold lawL at e
    cases hh : hedF tv T p with
    | inl z => rw [hh] at e; cases e; exact ⟨fun _ _ _ _ _ => rfl, i, by omega, h5⟩
    | inr x =>
      rw [hh] at e
      dsimp only at e
      have hM : ∀ a, a ≠ 41 → a ≠ 42 → a ≠ 43 → a ≠ 44 → hedM I i x.1 x.2.1 a = I a := fun a _ h2 h3 _ => by unfold hedM; rw [up2_row h3, up2_row h2]
      have hM5 : hedM I i x.1 x.2.1 41 5 = nI i := by unfold hedM; rw [up2_row (by decide), up2_row (by decide)]; exact h5
      generalize hc : cndF tv T st x.2.2 = r at e
      obtain ⟨rb, rs, rq⟩ := r
      dsimp only at e
      have hL : ∀ a, a ≠ 41 → a ≠ 42 → a ≠ 43 → a ≠ 44 → linM (hedM I i x.1 x.2.1) i rs.2 a = I a := fun a h1 h2 h3 h4 => by unfold linM; rw [up2_row h4, up2_row h1]; exact hM a h1 h2 h3 h4
      have hL5 : linM (hedM I i x.1 x.2.1) i rs.2 41 5 = nI (i + 1) := by unfold linM; rw [up2_row (by decide), up2_hit]
      split at e
      · split at e
        · cases e; exact ⟨hL, i + 1, by omega, hL5⟩
        · split at e
          · obtain ⟨g1, g2⟩ := ih (i + 1) _ _ _ b J st2 q (by omega) hL5 e
            exact ⟨fun a h1 h2 h3 h4 => (g1 a h1 h2 h3 h4).trans (hL a h1 h2 h3 h4), g2⟩
          · cases e; exact ⟨hL, i + 1, by omega, hL5⟩
      · cases e; exact ⟨hM, i, by omega, hM5⟩
theorem lawA_in {tv : Nat → Nat} {T p : Nat} {I J : Mem} {b : Bool} {st2 : Sz} {q : Nat} (e : lawA tv T I p = (b, J, st2, q)) : (∀ a, a ≠ 41 → a ≠ 42 → a ≠ 43 → a ≠ 44 → J a = I a) ∧ ∃ m, m ≤ 12 ∧ J 41 5 = nI m := by
  unfold lawA at e
  split at e
  · cases e; exact ⟨fun a h _ _ _ => up2_row h, 0, by decide, up2_hit⟩
  · obtain ⟨g1, g2⟩ := lawL_in 12 0 _ _ _ b J st2 q (by decide) up2_hit e
    exact ⟨fun a h1 h2 h3 h4 => (g1 a h1 h2 h3 h4).trans (up2_row h1), g2⟩
theorem TK_new {K : Nat → Nat × Nat} {R : Nat → Nat → Option Nat} {n : Nat} {v : Nat × Nat} {g : Nat → Option Nat} (h : TK K R n) : TK (up1 K n v) (upr R n g) (n + 1) :=
  have hl := h.2.2
  ⟨fun a k q => by rw [up1_ne (by have := k0_338 q; omega)]; exact h.1 a k q, fun a j b q => by rw [upr_ne (by have := r0_338 q; omega)]; exact h.2.1 a j b q, by omega⟩
theorem c_law {d : Nat} {K : Nat → Nat × Nat} {I : Nat → Nat → Int32} {L : Nat → Nat → Int64} {R : Nat → Nat → Option Nat} {n s : Nat} {Q : Lo → Lm → Prop} {T : Nat} {tv : Nat → Nat} (hT : TK K R n) (hf : n + 6 ≤ lmCells) (hs : s + 870 ≤ lmSlots) (hL7 : I 0 7 = nI T) (hT4 : T ≤ 400) (htv : ∀ j, j < 400 → I 38 j = nI (tv j)) (htl : ∀ j, j < 400 → tv j < 256) (hS : SS K I R) (kkE : ∀ J st2 q, lwR I tv T = (false, J, st2, q) → Q (.inr n) (exM 14 (K, up2 (lw J st2 q) 0 8 (nI q), L, R, n, s))) (kk : ∀ J st2 q m K2 I2 L2 R2, lwR I tv T = (true, J, st2, q) → J 41 5 = nI m → m ≤ 12 → st2.2 ≤ 400 → LawNew (up1 K n (7, 0)) (upr (up2 (lw J st2 q) 0 8 (-1)) n (fun _ => 0)) (upr L n (fun _ => 0)) (upr R n (fun _ => none)) (n + 1) n m st2.2 K2 I2 L2 R2 → Q (.inl (some (.int (nI m)))) (K2, up2 I2 0 5 (nI 0), L2, up2 R2 1 18 (some n), n + 1 + 5, s + 6 + (m + m + (m + 1) + st2.2 + (st2.2 + 1)))) : Ok (d + 28) 96 [.ref 0] (K, I, L, R, n, s) Q := by
  have hb := TK.s1 hT
  obtain ⟨-, -, hn⟩ := id hT
  refine Ok.enter (F := F_96) (ls := [.ref 0, lDead]) rfl rfl ?_
  refine wp_aload0 (pc' := 1) rfl rfl ?_
  refine wp_getRF (pc' := 4) rfl rfl (by first | exact TK.k1 hT rfl | exact TK.kk hT rfl | exact TK.r hT rfl | assumption) (by first | exact TK.k1 hT rfl | exact TK.kk hT rfl | exact TK.r hT rfl | assumption) rfl ?_
  refine wp_aload0 (pc' := 5) rfl rfl ?_
  refine wp_callV1 (pc' := 8) rfl rfl rfl rfl rfl (by first | exact TK.k1 hT rfl | exact TK.kk hT rfl | exact TK.r hT rfl | assumption) rfl rfl ?_
  refine c_useTape hT ?_
  rw [hL7]
  refine Cont.v ?_
  refine wp_callV2 (pc' := 11) rfl rfl rfl rfl rfl (by first | exact TK.k1 hT rfl | exact TK.kk hT rfl | exact TK.r hT rfl | assumption) rfl rfl ?_
  refine c_start hT hT4 (fun j hj => by rw [up2_row (by decide)]; exact htv j hj) htl ?_
  refine Cont.u ?_
  refine wp_aload0 (pc' := 12) rfl rfl ?_
  refine wp_getRF (pc' := 15) rfl rfl (by first | exact TK.k1 hT rfl | exact TK.kk hT rfl | exact TK.r hT rfl | assumption) (by first | exact TK.k1 hT rfl | exact TK.kk hT rfl | exact TK.r hT rfl | assumption) rfl ?_
  refine wp_callV1 (pc' := 18) rfl rfl rfl rfl rfl (by first | exact TK.k1 hT rfl | exact TK.kk hT rfl | exact TK.r hT rfl | assumption) rfl rfl ?_
  rw [show rdM (up2 (up2 I 0 7 (nI 0)) 39 1 (nI T)) (skp tv T 0) = rdM (B0 I T) (skp tv T 0) from rfl]
  refine c_lawAll hT (B0_rd hT4 htv htl) (SS_off hS (fun a ha => B0_o (by unfold lmB at ha; omega) (by unfold lmB at ha; omega))) (skp_ge (Nat.zero_le _)).2 (fun b J st2 q e hz hq => ?_)
  obtain ⟨hJo, mm, hm12, hJ5⟩ := lawA_in e
  refine Cont.v ?_
  refine wp_istore1 (pc' := 19) rfl (by first | rfl | assumption) rfl ?_
  refine wp_aload0 (pc' := 20) rfl rfl ?_
  refine wp_iload1 (pc' := 21) rfl rfl ?_
  first | refine wp_ifeqB (pc' := 24) rfl rfl ?_ ?_ | refine wp_ifeq (pc' := 24) rfl rfl ?_ ?_
  · intro h21
    refine wp_aload0 (pc' := 29) rfl rfl ?_
    refine wp_getRF (pc' := 32) rfl rfl (by first | exact TK.k1 hT rfl | exact TK.kk hT rfl | exact TK.r hT rfl | assumption) (by first | exact TK.k1 hT rfl | exact TK.kk hT rfl | exact TK.r hT rfl | assumption) rfl ?_
    refine wp_getI (pc' := 35) rfl rfl (by first | exact TK.k1 hT rfl | exact TK.kk hT rfl | exact TK.r hT rfl | assumption) rfl ?_
    try rw [show lw J st2 q 39 2 = nI q from rdM_2]
    refine wp_putI (pc' := 38) rfl rfl (by first | exact TK.k1 hT rfl | exact TK.kk hT rfl | exact TK.r hT rfl | assumption) (by omega) rfl ?_
    refine wp_iload1 (pc' := 39) rfl rfl ?_
    refine wp_ifneF (pc' := 42) rfl (by rw [if_neg h21]) rfl ?_
    refine wp_raise (pc := 42) rfl rfl rfl rfl rfl rfl rfl rfl rfl (by decide) (by decide) (by omega) (by omega) rfl ?_
    obtain rfl : b = false := Bool.eq_false_iff.mpr h21
    exact kkE J st2 q e
  · intro h21
    refine wp_iconst (v := (-1)) (pc' := 25) rfl rfl rfl ?_
    refine wp_goto rfl ?_
    try rw [show lw J st2 q 39 2 = nI q from rdM_2]
    refine wp_putI (pc' := 38) rfl rfl (by first | exact TK.k1 hT rfl | exact TK.kk hT rfl | exact TK.r hT rfl | assumption) (by omega) rfl ?_
    refine wp_iload1 (pc' := 39) rfl rfl ?_
    refine wp_ifneT rfl (by rw [if_pos h21]; decide) ?_
    refine wp_aload0 (pc' := 53) rfl rfl ?_
    refine wp_getRF (pc' := 56) rfl rfl (by first | exact TK.k1 hT rfl | exact TK.kk hT rfl | exact TK.r hT rfl | assumption) (by first | exact TK.k1 hT rfl | exact TK.kk hT rfl | exact TK.r hT rfl | assumption) rfl ?_
    refine wp_new (pc' := 59) rfl rfl (by omega) (by omega) rfl ?_
    have hT0 := hT
    have hT := TK_new (v := (7, 0)) (g := fun _ => none) hT0
    have hIo : ∀ a, a ≠ n → upr (up2 (lw J st2 q) 0 8 (-1)) n (fun _ => 0) a = (up2 (lw J st2 q) 0 8 (-1)) a := fun a ha => upr_ne ha
    refine wp_dup (pc' := 60) rfl rfl rfl ?_
    refine wp_aload0 (pc' := 61) rfl rfl ?_
    refine wp_getRF (pc' := 64) rfl rfl (by first | exact TK.k1 hT rfl | exact TK.kk hT rfl | exact TK.r hT rfl | assumption) (by first | exact TK.k1 hT rfl | exact TK.kk hT rfl | exact TK.r hT rfl | assumption) rfl ?_
    refine wp_callI2 (pc' := 67) rfl rfl rfl rfl rfl (by show (up1 K n (7, 0) n).1 = 7; rw [up1_hit]) rfl rfl ?_
    refine c_lawInit (la := n) (m := mm) (z := st2.2) hT (by omega) (Nat.lt_succ_self n) (by rw [up1_hit]) (by show upr (up2 (lw J st2 q) 0 8 (-1)) n (fun _ => 0) 41 5 = _; rw [hIo 41 (by omega), up2_row (by decide), show lw J st2 q 41 5 = J 41 5 from lw_J5]; exact hJ5) hm12 (by show upr (up2 (lw J st2 q) 0 8 (-1)) n (fun _ => 0) 41 6 = _; rw [hIo 41 (by omega), up2_row (by decide)]; exact lw_6) hz (by show n + 1 + 5 ≤ lmCells; omega) (by show s + 6 + 860 ≤ lmSlots; omega) (fun K2 I2 L2 R2 hLN => ?_)
    refine Cont.u ?_
    have hT := TK_lawNew hT (Nat.le_refl _) hLN
    have hb := TK.s1 hT
    refine wp_putR (pc' := 70) rfl rfl (TK.k1 hT rfl) (by show 1 < n + 1 + 5; omega) rfl ?_
    have hT := TK_18 (b := 1) (v := some n) hT (by unfold isSt; omega)
    refine wp_aload0 (pc' := 71) rfl rfl ?_
    refine wp_iconst (v := nI 0) (pc' := 72) rfl rfl rfl ?_
    refine wp_putI (pc' := 75) rfl rfl (by first | exact TK.k1 hT rfl | exact TK.kk hT rfl | exact TK.r hT rfl | assumption) (by omega) rfl ?_
    refine wp_aload0 (pc' := 76) rfl rfl ?_
    refine wp_getRF (pc' := 79) rfl rfl (by first | exact TK.k1 hT rfl | exact TK.kk hT rfl | exact TK.r hT rfl | assumption) (by first | exact TK.k1 hT rfl | exact TK.kk hT rfl | exact TK.r hT rfl | assumption) rfl ?_
    refine wp_getR (b := n) (pc' := 82) rfl rfl (TK.k1 hT rfl) up2_hit rfl ?_
    refine wp_getIF (pc' := 85) rfl rfl (show (K2 n).1 = 7 by rw [(hLN.1 n (show ¬ (n + 1 ≤ n ∧ n < n + 1 + 5) by omega)).1]; exact congrArg Prod.fst up1_hit) rfl ?_
    refine wp_iret rfl rfl rfl ?_
    obtain rfl : b = true := h21
    exact Qv (kk J st2 q mm K2 I2 L2 R2 e hJ5 hm12 hz hLN) (by rw [up2_row (by omega)]; exact hLN.2.1) rfl
