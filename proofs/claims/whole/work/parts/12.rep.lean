/-! THE LIGHT MACHINE AGAINST THE MACHINE: what the heap holds -/
/-- class numbers, field slots, array classes, the heap at the start, addresses, the static cells, an exception's fresh slots -/
abbrev LG : Type := (Nat → ClassId) × (Nat → Nat → Nat) × (Nat → ClassId) × Heap × (Nat → Nat) × Lm × (Nat → Array Value)
abbrev gC (G : LG) : Nat → ClassId := G.1
abbrev gI (G : LG) : Nat → Nat → Nat := G.2.1
abbrev gA (G : LG) : Nat → ClassId := G.2.2.1
abbrev gH (G : LG) : Heap := G.2.2.2.1
abbrev gD (G : LG) : Nat → Nat := G.2.2.2.2.1
abbrev gS (G : LG) : Lm := G.2.2.2.2.2.1
abbrev gX (G : LG) : Nat → Array Value := G.2.2.2.2.2.2
def lV (G : LG) (v : Value) : Value := match v with
  | .ref a => .ref (gD G a)
  | v => v
theorem lV_cat (G : LG) (v : Value) : (lV G v).category = v.category := by cases v <;> rfl
theorem isL_cat (v : Value) : isL v = true ↔ v.category = 2 := by cases v <;> simp [isL, Value.category]
theorem isL_cat1 {v : Value} (h : isL v = false) : v.category = 1 := by
  rcases lv_cat v with q | q
  · exact q
  · rw [(isL_cat v).mpr q] at h; cases h
/-- the value of a field -/
def lFv (G : LG) (t : Lm) (ci a k : Nat) : Value := bif cRf ci k then lV G (lRef (lmR t a k)) else .int (lmI t a k)
def aTy (k : Nat) : FieldType := match k with
  | 50 => .int
  | 51 => .long
  | 52 => .byte
  | 53 => .boolean
  | 54 => .object "TurfBog$State"
  | _ => .array .int
def lAv (G : LG) (t : Lm) (k a j : Nat) : Value := match k with
  | 51 => .long (lmL t a j)
  | 54 => lV G (lRef (lmR t a j))
  | 55 => lV G (lRef (lmR t a j))
  | _ => .int (lmI t a j)
/-- what stands in the heap for a cell of the light machine -/
def lCell (G : LG) (t : Lm) (H : Heap) (a : Nat) : Prop :=
  if (lmK t a).1 < 13 then t_OB (gD G a) (gC G (lmK t a).1) (cL (lmK t a).1) (gI G (lmK t a).1) H (lFv G t (lmK t a).1 a)
  else if (lmK t a).1 < 50 then 14 ≤ (lmK t a).1 ∧ (if (lmK t a).2 = 0 then H[gD G a]? = some { cls := gC G (lmK t a).1, slots := gX G (lmK t a).1, vm := .none } else ∃ cell : Cell, H[gD G a]? = some cell ∧ cell.cls = gC G (lmK t a).1 ∧ cell.vm = .none)
  else H[gD G a]? = some (arrV (gA G (lmK t a).1) (lmK t a).2 (lAv G t (lmK t a).1 a))
def Rep (G : LG) (t : Lm) (H : Heap) : Prop :=
  H.size = (gH G).size + lmN t ∧ lmN t ≤ lmCells ∧ lmS t ≤ lmSlots ∧ (∀ a, a < lmN t → lCell G t H a) ∧ (∀ q, q < (gH G).size → H[q]? = (gH G)[q]?) ∧ (∀ a, lmN t ≤ a → a < lmB → lmK t a = (0, 0)) ∧
  (∀ a, lmB ≤ a → lmK t a = lmK (gS G) a ∧ lmI t a = lmI (gS G) a ∧ lmL t a = lmL (gS G) a ∧ lmR t a = lmR (gS G) a)
/-- the addresses: those that are made come one behind another; those that were there lie ahead -/
def Ad (G : LG) : Prop := (∀ a, a < lmB → gD G a = (gH G).size + a) ∧ ∀ a, lmB ≤ a → ¬ (lmK (gS G) a).1 = 0 → gD G a < (gH G).size ∧ ((lmK (gS G) a).1 = 13 ∨ 50 ≤ (lmK (gS G) a).1)
theorem lmCells_lt : lmCells < lmB := by decide
theorem Rep.lt {G : LG} {t : Lm} {H : Heap} (h : Rep G t H) {a : Nat} (ha : ¬ (lmK t a).1 = 0) : a < lmN t ∨ lmB ≤ a := by
  obtain ⟨-, h2, -, -, -, h6, -⟩ := h
  rcases Nat.lt_or_ge a (lmN t) with q | q
  · exact Or.inl q
  · rcases Nat.lt_or_ge a lmB with r | r
    · exact absurd (by rw [h6 a q r]) ha
    · exact Or.inr r
theorem Rep.ad {G : LG} {t : Lm} {H : Heap} (h : Rep G t H) (hA : Ad G) {a : Nat} (ha : a < lmN t) : gD G a = (gH G).size + a := hA.1 a (Nat.lt_trans (Nat.lt_of_lt_of_le ha h.2.1) lmCells_lt)
/-! locals -/
def lvE (G : LG) (ls : List Value) : List (Nat × Value) := (List.range ls.length).filterMap fun i => match ls[i]? with
  | some v => if v = lDead then none else some (i, lV G v)
  | none => none
def Lv (G : LG) (ls : List Value) (nL : Nat) (re : Array Slot) : Prop := lv_has re nL (lvE G ls) ∧ ls.length = nL
theorem lvE_mem {G : LG} {ls : List Value} {i : Nat} {v : Value} (h : ls[i]? = some v) (hd : ¬ v = lDead) : (i, lV G v) ∈ lvE G ls := by
  refine List.mem_filterMap.mpr ⟨i, List.mem_range.mpr (List.getElem?_eq_some_iff.mp h).1, ?_⟩
  simp only [h, if_neg hd]
theorem lvE_of {G : LG} {ls : List Value} {q : Nat × Value} (h : q ∈ lvE G ls) : ∃ v, ls[q.1]? = some v ∧ ¬ v = lDead ∧ q.2 = lV G v := by
  obtain ⟨i, -, h2⟩ := List.mem_filterMap.mp h
  cases hv : ls[i]? with
  | none => simp [hv] at h2
  | some v =>
    simp only [hv] at h2
    by_cases hd : v = lDead
    · simp [hd] at h2
    · rw [if_neg hd] at h2
      cases h2
      exact ⟨v, hv, hd, rfl⟩
theorem Lv.at {G : LG} {ls : List Value} {nL : Nat} {re : Array Slot} (h : Lv G ls nL re) {i : Nat} {v : Value} (hv : ls[i]? = some v) (hd : ¬ v = lDead) : re[i]? = some (.val (lV G v)) := h.1.2.2 _ (lvE_mem hv hd)
theorem lClr_len (ls : List Value) (k : Nat) : (lClr ls k).length = ls.length := by
  cases k with
  | zero => rfl
  | succ n =>
    rw [lClr]
    cases oL ls[n]? with
    | true => exact List.length_set
    | false => rfl
theorem lClr_at {ls : List Value} {k j : Nat} {w : Value} (h : (lClr ls k)[j]? = some w) (hd : ¬ w = lDead) : ls[j]? = some w ∧ ¬ (j + 1 = k ∧ isL w = true) := by
  cases k with
  | zero => exact ⟨h, fun q => by omega⟩
  | succ n =>
    rw [lClr] at h
    cases hb : oL ls[n]? with
    | true =>
      rw [hb, cond_true] at h
      by_cases e : n = j
      · subst e
        rw [List.getElem?_set] at h
        simp only [if_true] at h
        split at h
        · cases h; exact absurd rfl hd
        · cases h
      · rw [List.getElem?_set, if_neg e] at h
        exact ⟨h, fun q => e (by omega)⟩
    | false =>
      rw [hb, cond_false] at h
      refine ⟨h, fun q => ?_⟩
      obtain ⟨q1, q2⟩ := q
      have e : j = n := by omega
      subst e
      rw [h] at hb
      have hb2 : isL w = false := hb
      rw [hb2] at q2
      cases q2
theorem Lv.store1 {G : LG} {ls : List Value} {nL : Nat} {re : Array Slot} {i : Nat} {v : Value} (hl : ls.length = nL) (h : lv_has re nL ((i, lV G v) :: (lvE G ls).filter (fun q => !(q.1 == i) && !(q.1 + 1 == i && q.2.category == 2)))) : Lv G (lSet ls i v) nL re := by
  refine ⟨⟨h.1, h.2.1, fun q hq => ?_⟩, by unfold lSet; rw [List.length_set, lClr_len]; exact hl⟩
  obtain ⟨w, hw, hd, e⟩ := lvE_of hq
  obtain ⟨j, x⟩ := q
  dsimp only at hw e
  subst e
  unfold lSet at hw
  rw [List.getElem?_set] at hw
  by_cases e : i = j
  · subst e
    simp only [if_true] at hw
    split at hw
    · cases hw
      exact h.2.2 _ List.mem_cons_self
    · cases hw
  · rw [if_neg e] at hw
    obtain ⟨h1, h2⟩ := lClr_at hw hd
    refine h.2.2 _ (List.mem_cons_of_mem _ (List.mem_filter.mpr ⟨lvE_mem h1 hd, ?_⟩))
    have e2 : (j == i) = false := by simpa using fun q => e q.symm
    simp only [e2, Bool.not_false, Bool.true_and, Bool.not_eq_true', Bool.and_eq_false_iff]
    by_cases e3 : j + 1 = i
    · right
      have : isL w = false := by
        cases hw2 : isL w with
        | false => rfl
        | true => exact absurd ⟨e3, hw2⟩ h2
      rw [lV_cat, isL_cat1 this]; rfl
    · left; simpa using e3
theorem Lv.store2 {G : LG} {ls : List Value} {nL : Nat} {re : Array Slot} {i : Nat} {v : Value} (hl : ls.length = nL) (h : lv_has re nL ((i, lV G v) :: (lvE G ls).filter (fun q => !(q.1 == i) && (!(q.1 == i + 1) && !(q.1 + 1 == i && q.2.category == 2))))) : Lv G (lSet2 ls i v) nL re := by
  refine ⟨⟨h.1, h.2.1, fun q hq => ?_⟩, by unfold lSet2; rw [List.length_set, List.length_set, lClr_len]; exact hl⟩
  obtain ⟨w, hw, hd, e⟩ := lvE_of hq
  obtain ⟨j, x⟩ := q
  dsimp only at hw e
  subst e
  unfold lSet2 at hw
  rw [List.getElem?_set] at hw
  by_cases e0 : i + 1 = j
  · subst e0
    simp only [if_true] at hw
    split at hw
    · cases hw; exact absurd rfl hd
    · cases hw
  · rw [if_neg e0, List.getElem?_set] at hw
    by_cases e : i = j
    · subst e
      simp only [if_true] at hw
      split at hw
      · cases hw
        exact h.2.2 _ List.mem_cons_self
      · cases hw
    · rw [if_neg e] at hw
      obtain ⟨h1, h2⟩ := lClr_at hw hd
      refine h.2.2 _ (List.mem_cons_of_mem _ (List.mem_filter.mpr ⟨lvE_mem h1 hd, ?_⟩))
      have e2 : (j == i) = false := by simpa using fun q => e q.symm
      have e4 : (j == i + 1) = false := by simpa using fun q => e0 q.symm
      simp only [e2, e4, Bool.not_false, Bool.true_and, Bool.not_eq_true', Bool.and_eq_false_iff]
      by_cases e3 : j + 1 = i
      · right
        have : isL w = false := by
          cases hw2 : isL w with
          | false => rfl
          | true => exact absurd ⟨e3, hw2⟩ h2
        rw [lV_cat, isL_cat1 this]; rfl
      · left; simpa using e3
