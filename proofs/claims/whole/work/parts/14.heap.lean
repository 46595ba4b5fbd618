/-! how the heap's picture goes on: a cell written, a cell made -/
theorem lCell.congr {G : LG} {t t' : Lm} {H H' : Heap} {a : Nat} (h : lCell G t H a) (hk : lmK t' a = lmK t a) (hi : lmI t' a = lmI t a) (hl : lmL t' a = lmL t a) (hr : lmR t' a = lmR t a) (hq : H'[gD G a]? = H[gD G a]?) : lCell G t' H' a := by
  have e1 : ∀ c, lFv G t' c a = lFv G t c a := fun c => by funext k; simp only [lFv, hi, hr]
  have e2 : ∀ c, lAv G t' c a = lAv G t c a := fun c => by funext k; simp only [lAv, hi, hl, hr]
  unfold lCell at h ⊢
  rw [hk, e1, e2]
  split
  · rename_i h1
    rw [if_pos h1] at h
    exact h.kept hq
  · rename_i h1
    rw [if_neg h1] at h
    split
    · rename_i h2
      rw [if_pos h2] at h
      refine ⟨h.1, ?_⟩
      have h := h.2
      split
      · rename_i h3
        rw [if_pos h3] at h
        rw [hq]; exact h
      · rename_i h3
        rw [if_neg h3] at h
        rw [hq]; exact h
    · rename_i h2
      rw [if_neg h2] at h
      rw [hq]; exact h
/-- a cell that was made is written -/
theorem Rep.put {G : LG} {t t' : Lm} {H H' : Heap} (hA : Ad G) (h : Rep G t H) {a : Nat} (ha : a < lmN t) (hN : lmN t' = lmN t) (hS : lmS t' = lmS t) (hK : ∀ b, b ≠ a → lmK t' b = lmK t b) (hI : ∀ b, b ≠ a → lmI t' b = lmI t b) (hL : ∀ b, b ≠ a → lmL t' b = lmL t b) (hR : ∀ b, b ≠ a → lmR t' b = lmR t b)
    (hz : H'.size = H.size) (hq : ∀ q, q ≠ gD G a → H'[q]? = H[q]?) (hc : lCell G t' H' a) : Rep G t' H' := by
  obtain ⟨h1, h2, h3, h4, h5, h6, h7⟩ := id h
  have hB : lmN t < lmB := Nat.lt_of_le_of_lt h2 lmCells_lt
  have hne : ∀ b, b < lmN t → b ≠ a → gD G b ≠ gD G a := fun b hb hn => by
    rw [h.ad hA hb, h.ad hA ha]; omega
  refine ⟨by rw [hz, hN]; exact h1, by rw [hN]; exact h2, by rw [hS]; exact h3, fun b hb => ?_, fun q hq2 => ?_, fun b hb hb2 => ?_, fun b hb => ?_⟩
  · rw [hN] at hb
    by_cases e : b = a
    · rw [e]; exact hc
    · exact (h4 b hb).congr (hK b e) (hI b e) (hL b e) (hR b e) (hq _ (hne b hb e))
  · rw [hq q (by rw [h.ad hA ha]; omega)]
    exact h5 q hq2
  · rw [hN] at hb
    rw [hK b (by omega)]
    exact h6 b hb hb2
  · have e : b ≠ a := by omega
    rw [hK b e, hI b e, hL b e, hR b e]
    exact h7 b hb
/-- a cell is made -/
theorem Rep.new {G : LG} {t t' : Lm} {H H' : Heap} (hA : Ad G) (h : Rep G t H) (hN : lmN t' = lmN t + 1) (hfit : lmN t + 1 ≤ lmCells) (hS : lmS t' ≤ lmSlots) (hK : ∀ b, b ≠ lmN t → lmK t' b = lmK t b) (hI : ∀ b, b ≠ lmN t → lmI t' b = lmI t b) (hL : ∀ b, b ≠ lmN t → lmL t' b = lmL t b) (hR : ∀ b, b ≠ lmN t → lmR t' b = lmR t b)
    (hz : H'.size = H.size + 1) (hq : ∀ q, q < H.size → H'[q]? = H[q]?) (hc : lCell G t' H' (lmN t)) : Rep G t' H' := by
  obtain ⟨h1, h2, h3, h4, h5, h6, h7⟩ := id h
  have hB : lmN t < lmB := Nat.lt_of_le_of_lt h2 lmCells_lt
  have hB2 : lmN t + 1 < lmB := Nat.lt_of_le_of_lt hfit lmCells_lt
  refine ⟨by rw [hz, hN, h1]; omega, by rw [hN]; exact hfit, hS, fun b hb => ?_, fun q hq2 => ?_, fun b hb hb2 => ?_, fun b hb => ?_⟩
  · rw [hN] at hb
    by_cases e : b = lmN t
    · rw [e]; exact hc
    · have hb' : b < lmN t := by omega
      exact (h4 b hb').congr (hK b e) (hI b e) (hL b e) (hR b e) (hq _ (by rw [h.ad hA hb', h1]; omega))
  · rw [hq q (by rw [h1]; omega)]
    exact h5 q hq2
  · rw [hN] at hb
    rw [hK b (by omega)]
    exact h6 b (by omega) hb2
  · have e : b ≠ lmN t := by omega
    rw [hK b e, hI b e, hL b e, hR b e]
    exact h7 b hb
theorem Rep.next {G : LG} {t : Lm} {H : Heap} (hA : Ad G) (h : Rep G t H) : gD G (lmN t) = H.size := by
  rw [hA.1 _ (Nat.lt_of_le_of_lt h.2.1 lmCells_lt), h.1]
theorem Rep.obj {G : LG} {t : Lm} {H : Heap} (h : Rep G t H) {a ci : Nat} (ha : a < lmN t) (hk : (lmK t a).1 = ci) (hc : ci < 13) : t_OB (gD G a) (gC G ci) (cL ci) (gI G ci) H (lFv G t ci a) := by
  have := h.2.2.2.1 a ha
  unfold lCell at this
  rw [hk, if_pos hc] at this
  exact this
theorem Rep.arr {G : LG} {t : Lm} {H : Heap} (h : Rep G t H) {a k : Nat} (ha : a < lmN t) (hk : (lmK t a).1 = k) (hc : 50 ≤ k) : H[gD G a]? = some (arrV (gA G k) (lmK t a).2 (lAv G t k a)) := by
  have := h.2.2.2.1 a ha
  unfold lCell at this
  rw [hk, if_neg (by omega), if_neg (by omega)] at this
  exact this
/-! what stays through the run: classes, arrays' classes, strings and static fields -/
def gO (G : LG) : Nat → Prop := fun q => (gH G).size ≤ q
def sOwn : List (Nat × Nat) := [(5, 36), (5, 104), (5, 118), (5, 120), (5, 122), (1, 123), (1, 133), (6, 58), (6, 45), (6, 84), (6, 86), (6, 94), (6, 82), (6, 71), (1, 151), (1, 224), (1, 157), (1, 251), (1, 159), (1, 276), (1, 282), (1, 284), (1, 290), (1, 292), (1, 297), (1, 308), (1, 321), (1, 372), (1, 391), (1, 393), (1, 421), (12, 171), (12, 177), (12, 179), (12, 184), (12, 156), (12, 189), (12, 162), (12, 167), (12, 169), (12, 194), (12, 199), (12, 204), (12, 206), (12, 211), (12, 265), (12, 267), (12, 269), (12, 247), (12, 237), (12, 239), (12, 216), (12, 218), (12, 220), (12, 222), (12, 258), (12, 263)]
/-- a static cell -/
def sCell (G : LG) (U : State) (a : Nat) : Prop :=
  ((lmK (gS G) a).1 = 13 → va_O "java/lang/String" (gD G a) (gO G) U (gH G) ∧ ∀ k, k < 2 → va_OF "java/lang/String" (cF 13 k).2.1 (cF 13 k).2.2.1 (lFv G (gS G) 13 a k) (gD G a) (gO G) U (gH G)) ∧
  (50 ≤ (lmK (gS G) a).1 → va_T (aTy (lmK (gS G) a).1) (gD G a) (lmK (gS G) a).2 (lAv G (gS G) (lmK (gS G) a).1 a) (gO G) U (gH G))
/-- a static field that is laid -/
def lSt (O f d : String) (U : State) (H : Heap) : Prop := ∃ (c : ClassId) (k : Class) (i : Nat) (fd : Field) (a : Nat) (cell : Cell), U.vm.findClass O = some c ∧ U.fieldFound? O f d = some (c, k, i, fd) ∧ fd.isStatic = true ∧ k.statics = some a ∧ H[a]? = some cell ∧ cell.vm.isStatics = true ∧ cell.cls = c ∧ fd.slot < cell.slots.size ∧ k.staticTypes[fd.slot]? = some fd.type
theorem lSt.moved {O f d : String} {u U : State} {H : Heap} (hvm : u.vm.Alike U.vm) (h : lSt O f d u H) : lSt O f d U H := by
  obtain ⟨c, k, i, fd, a, cell, h1, h2, h3, h4, h5, h6, h7, h8, h9⟩ := h
  obtain ⟨k', hi', he⟩ := State.fieldFound?_setVm hvm h2
  exact ⟨c, k', i, fd, a, cell, by rw [hvm.findClass]; exact h1, hi', h3, by rw [he]; exact h4, h5, h6, h7, h8, by rw [he]; exact h9⟩
def Kn (G : LG) (U : State) : Prop :=
  (∀ c, 1 ≤ c → c < 13 → u_Kn U (cN c) (cF c) (cL c) (gC G c) (gI G c)) ∧
  (∀ c, 14 ≤ c → c < 19 → U.vm.findClass (cN c) = some (gC G c) ∧ ∃ k : Class, U.vm.classes[gC G c]? = some k ∧ k.kind = .ordinary ∧ k.instanceTypes.map defaultValue = gX G c) ∧
  (∀ k, 50 ≤ k → k < 56 → ArrOfT U (gA G k) (aTy k) ∧ va_RA U (gA G k) (aTy k)) ∧
  (∀ (i : Nat) (q : Nat × Nat), sOwn[i]? = some q → vk_R (cN q.1) q.2 (sTx.getD i "") (gD G (lmB + 2 * i)) U) ∧
  (∀ a, lmB ≤ a → sCell G U a) ∧
  (∀ k, 1000 ≤ k → k < 1003 → va_Z (sFl k).1 (sFl k).2.1 (sFl k).2.2 (.ref (gD G (lmB + k))) (gO G) U (gH G)) ∧
  va_Z "java/lang/String" "COMPACT_STRINGS" "Z" (.int 1) (gO G) U (gH G) ∧ va_Zq "java/lang/Throwable" "UNASSIGNED_STACK" "[Ljava/lang/StackTraceElement;" (gO G) U (gH G) ∧ va_Zq "java/lang/Throwable" "SUPPRESSED_SENTINEL" "Ljava/util/List;" (gO G) U (gH G) ∧
  va_Zq "jdk/internal/util/Preconditions" "SIOOBE_FORMATTER" "Ljava/util/function/BiFunction;" (gO G) U (gH G) ∧
  (∀ c d, 14 ≤ c → c < 19 → 14 ≤ d → d < 19 → c ≠ d → U.vm.assignable (gC G c) (gC G d) = false) ∧
  lSt "java/lang/Throwable" "UNASSIGNED_STACK" "[Ljava/lang/StackTraceElement;" U (gH G) ∧ lSt "java/lang/Throwable" "SUPPRESSED_SENTINEL" "Ljava/util/List;" U (gH G) ∧
  ∃ (kA kB : Class) (cC : ClassId), U.vm.classes[gA G 55]? = some kA ∧ kA.kind = .array (gA G 50) (.array .int) ∧ U.vm.classes[gA G 50]? = some kB ∧ kB.kind = .array cC .int
theorem Kn.moved {G : LG} {u U : State} (hW : u.WarmedH U.vm) (h : Kn G u) : Kn G U := by
  have hvm : u.vm.Alike U.vm := hW.alike
  obtain ⟨h1, h2, h3, h4, h5, h6, h7, h8, h9, h10, h11, h12, h13, kA, kB, cC, h14, h15, h16, h17⟩ := h
  obtain ⟨kA', hA1, hA2⟩ := hvm.2.2 _ _ h14
  obtain ⟨kB', hB1, hB2⟩ := hvm.2.2 _ _ h16
  have hq : ∀ {C n d : String}, va_Zq C n d (gO G) u (gH G) → va_Zq C n d (gO G) U (gH G) := fun h => by
    rcases h with h | ⟨x, h⟩
    · exact Or.inl (h.moved hvm)
    · exact Or.inr ⟨x, h.moved hvm⟩
  refine ⟨fun c a b => u_Kn_moved hvm (h1 c a b), fun c a b => ?_, fun k a b => ⟨arrOfT_moved hvm (h3 k a b).1, (h3 k a b).2.moved hvm⟩, fun i q hi => (h4 i q hi).warm hW, fun a ha => ⟨fun hk => ⟨((h5 a ha).1 hk).1.moved hvm, fun k hk2 => (((h5 a ha).1 hk).2 k hk2).moved hvm⟩, fun hk => ((h5 a ha).2 hk).moved hvm⟩, fun k a b => (h6 k a b).moved hvm, h7.moved hvm, hq h8, hq h9, hq h10, fun c d a1 a2 a3 a4 a5 => by rw [hvm.assignable]; exact h11 c d a1 a2 a3 a4 a5, h12.moved hvm, h13.moved hvm, kA', kB', cC, hA1, by rw [hA2]; exact h15, hB1, by rw [hB2]; exact h17⟩
  obtain ⟨q1, k, q2, q3, q4⟩ := h2 c a b
  obtain ⟨k', hk', he⟩ := hvm.2.2 _ _ q2
  exact ⟨by rw [hvm.findClass]; exact q1, k', hk', by rw [he]; exact q3, by rw [he]; exact q4⟩
