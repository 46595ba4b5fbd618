/-! THE RELATION: a law's codes, run by both -/
def ExN (c : Nat → Int32) : Nat → Bool → Nat → Nat → Prop
  | 0 => fun _ _ _ => False
  | f + 1 => fun t a z => (z = a + 1 ∧ ((t = false ∧ ((∃ v, v < 1000 ∧ c a = nI v) ∨ ∃ k, k < 7 ∧ c a = nI (1000 + k))) ∨ (t = true ∧ ∃ k, k < 3 ∧ c a = nI (1007 + k))))
    ∨ (∃ b y, z = y + 1 ∧ ExN c f false a b ∧ ExN c f false b y ∧ ((t = false ∧ c y = nI 1011) ∨ (t = true ∧ (c y = nI 1012 ∨ c y = nI 1013))))
    ∨ (∃ y, z = y + 1 ∧ t = true ∧ ExN c f true a y ∧ c y = nI 1010)
    ∨ (∃ b y, z = y + 1 ∧ t = true ∧ ExN c f true a b ∧ ExN c f true b y ∧ (c y = nI 1014 ∨ c y = nI 1015))
/-- codes a to b give one value: a truth value or a number -/
def Ex (c : Nat → Int32) (t : Bool) (a b : Nat) : Prop := ∃ f, ExN c f t a b
theorem exN_s {c : Nat → Int32} : ∀ f t a z, ExN c f t a z → ExN c (f + 1) t a z
  | 0 => fun _ _ _ h => h.elim
  | f + 1 => fun t a z h => by
    rcases h with h | ⟨b, y, h1, h2, h3, h4⟩ | ⟨y, h1, h2, h3, h4⟩ | ⟨b, y, h1, h2, h3, h4, h5⟩
    · exact Or.inl h
    · exact Or.inr (Or.inl ⟨b, y, h1, exN_s f _ _ _ h2, exN_s f _ _ _ h3, h4⟩)
    · exact Or.inr (Or.inr (Or.inl ⟨y, h1, h2, exN_s f _ _ _ h3, h4⟩))
    · exact Or.inr (Or.inr (Or.inr ⟨b, y, h1, h2, exN_s f _ _ _ h3, exN_s f _ _ _ h4, h5⟩))
theorem exN_m {c : Nat → Int32} {f : Nat} {t : Bool} {a z : Nat} (h : ExN c f t a z) : ∀ g, ExN c (f + g) t a z
  | 0 => h
  | g + 1 => exN_s _ _ _ _ (exN_m h g)
theorem ex_2 {c : Nat → Int32} {t : Bool} {a b z : Nat} (h : Ex c t a b) (g : Ex c t b z) : ∃ f, ExN c f t a b ∧ ExN c f t b z := by
  obtain ⟨f, hf⟩ := h
  obtain ⟨e, he⟩ := g
  exact ⟨f + e, exN_m hf e, by rw [Nat.add_comm]; exact exN_m he f⟩
section
variable {c : Nat → Int32} {a b z v k : Nat}
theorem ex_num (h : v < 1000) (e : c a = nI v) : Ex c false a (a + 1) := ⟨1, Or.inl ⟨rfl, Or.inl ⟨rfl, Or.inl ⟨v, h, e⟩⟩⟩⟩
theorem ex_wrd (h : k < 7) (e : c a = nI (1000 + k)) : Ex c false a (a + 1) := ⟨1, Or.inl ⟨rfl, Or.inl ⟨rfl, Or.inr ⟨k, h, e⟩⟩⟩⟩
theorem ex_fct (h : k < 3) (e : c a = nI (1007 + k)) : Ex c true a (a + 1) := ⟨1, Or.inl ⟨rfl, Or.inr ⟨rfl, k, h, e⟩⟩⟩
theorem ex_add (x : Ex c false a b) (y : Ex c false b z) (e : c z = nI 1011) : Ex c false a (z + 1) := by
  obtain ⟨f, h1, h2⟩ := ex_2 x y
  exact ⟨f + 1, Or.inr (Or.inl ⟨b, z, rfl, h1, h2, Or.inl ⟨rfl, e⟩⟩)⟩
theorem ex_cmp (x : Ex c false a b) (y : Ex c false b z) (e : c z = nI 1012 ∨ c z = nI 1013) : Ex c true a (z + 1) := by
  obtain ⟨f, h1, h2⟩ := ex_2 x y
  exact ⟨f + 1, Or.inr (Or.inl ⟨b, z, rfl, h1, h2, Or.inr ⟨rfl, e⟩⟩)⟩
theorem ex_not (x : Ex c true a z) (e : c z = nI 1010) : Ex c true a (z + 1) := by
  obtain ⟨f, h1⟩ := x
  exact ⟨f + 1, Or.inr (Or.inr (Or.inl ⟨z, rfl, rfl, h1, e⟩))⟩
theorem ex_lgc (x : Ex c true a b) (y : Ex c true b z) (e : c z = nI 1014 ∨ c z = nI 1015) : Ex c true a (z + 1) := by
  obtain ⟨f, h1, h2⟩ := ex_2 x y
  exact ⟨f + 1, Or.inr (Or.inr (Or.inr ⟨b, z, rfl, rfl, h1, h2, e⟩))⟩
end
theorem exN_lt {c : Nat → Int32} : ∀ f t a z, ExN c f t a z → a < z
  | 0 => fun _ _ _ h => h.elim
  | f + 1 => fun t a z h => by
    rcases h with h | ⟨b, y, h1, h2, h3, h4⟩ | ⟨y, h1, h2, h3, h4⟩ | ⟨b, y, h1, h2, h3, h4, h5⟩
    · have := h.1; omega
    · have := exN_lt f _ _ _ h2; have := exN_lt f _ _ _ h3; omega
    · have := exN_lt f _ _ _ h3; omega
    · have := exN_lt f _ _ _ h3; have := exN_lt f _ _ _ h4; omega
theorem ex_lt {c : Nat → Int32} {t : Bool} {a b : Nat} (h : Ex c t a b) : a < b := by
  obtain ⟨f, hf⟩ := h
  exact exN_lt f _ _ _ hf
theorem exN_cg {c c2 : Nat → Int32} : ∀ f t a z, ExN c f t a z → (∀ i, a ≤ i → i < z → c2 i = c i) → ExN c2 f t a z
  | 0 => fun _ _ _ h _ => h.elim
  | f + 1 => fun t a z h e => by
    rcases h with h | ⟨b, y, h1, h2, h3, h4⟩ | ⟨y, h1, h2, h3, h4⟩ | ⟨b, y, h1, h2, h3, h4, h5⟩
    · refine Or.inl ?_
      rw [e a (Nat.le_refl _) (by have := h.1; omega)]; exact h
    · have l1 := exN_lt f _ _ _ h2
      have l2 := exN_lt f _ _ _ h3
      refine Or.inr (Or.inl ⟨b, y, h1, exN_cg f _ _ _ h2 (fun i i1 i2 => e i i1 (by omega)), exN_cg f _ _ _ h3 (fun i i1 i2 => e i (by omega) (by omega)), ?_⟩)
      rw [e y (by omega) (by omega)]; exact h4
    · have l1 := exN_lt f _ _ _ h3
      refine Or.inr (Or.inr (Or.inl ⟨y, h1, h2, exN_cg f _ _ _ h3 (fun i i1 i2 => e i i1 (by omega)), ?_⟩))
      rw [e y (by omega) (by omega)]; exact h4
    · have l1 := exN_lt f _ _ _ h3
      have l2 := exN_lt f _ _ _ h4
      refine Or.inr (Or.inr (Or.inr ⟨b, y, h1, h2, exN_cg f _ _ _ h3 (fun i i1 i2 => e i i1 (by omega)), exN_cg f _ _ _ h4 (fun i i1 i2 => e i (by omega) (by omega)), ?_⟩))
      rw [e y (by omega) (by omega)]; exact h5
theorem ex_cg {c c2 : Nat → Int32} {t : Bool} {a b : Nat} (h : Ex c t a b) (e : ∀ i, a ≤ i → i < b → c2 i = c i) : Ex c2 t a b := by
  obtain ⟨f, hf⟩ := h
  exact ⟨f, exN_cg f _ _ _ hf e⟩
abbrev Stk : Type := Nat × (Nat → Int32)
def hrn (val : Int32 → Int32) (c : Nat → Int32) (a k : Nat) (p : Stk) : Stk := forN (fun j p => hstep val (c (a + j)) p) p k
def rrn (fac : Int32 → Int32) (c : Nat → Int32) (a k : Nat) (p : Stk) : Stk := forN (fun j p => rstep (tk1 (c (a + j))) (fac (c (a + j))) p) p k
theorem hrn_add {val : Int32 → Int32} {c : Nat → Int32} {a x : Nat} {p : Stk} : ∀ y, hrn val c a (x + y) p = hrn val c (a + x) y (hrn val c a x p)
  | 0 => rfl
  | y + 1 => by
    show hstep val (c (a + (x + y))) (hrn val c a (x + y) p) = hstep val (c (a + x + y)) (hrn val c (a + x) y (hrn val c a x p))
    rw [hrn_add y, Nat.add_assoc]
theorem rrn_add {fac : Int32 → Int32} {c : Nat → Int32} {a x : Nat} {p : Stk} : ∀ y, rrn fac c a (x + y) p = rrn fac c (a + x) y (rrn fac c a x p)
  | 0 => rfl
  | y + 1 => by
    show rstep (tk1 (c (a + (x + y)))) (fac (c (a + (x + y)))) (rrn fac c a (x + y) p) = rstep (tk1 (c (a + x + y))) (fac (c (a + x + y))) (rrn fac c (a + x) y (rrn fac c a x p))
    rw [rrn_add y, Nat.add_assoc]
/-- both runs leave one value more, and the same -/
def Bth (t : Bool) (d : Nat) (p q p2 q2 : Stk) : Prop := ∃ x, (t = true → x = nI 0 ∨ x = nI 1) ∧ p2.1 = d + 1 ∧ p2.2 d = x ∧ (∀ i, i < d → p2.2 i = p.2 i) ∧ q2.1 = d + 1 ∧ q2.2 d = x ∧ ∀ i, i < d → q2.2 i = q.2 i
theorem bth_leaf {t : Bool} {val fac : Int32 → Int32} {w : Int32} {d : Nat} {p q : Stk} (h1 : w < nI 1010) (h2 : ¬ nI 10 < tk1 w) (hv : (if w < nI 1000 then w else val w) = fac w) (ht : t = true → fac w = nI 0 ∨ fac w = nI 1) (hp : p.1 = d) (hq : q.1 = d) : Bth t d p q (hstep val w p) (rstep (tk1 w) (fac w) q) := by
  have e1 : hstep val w p = (p.1 + 1, up1 p.2 p.1 (fac w)) := by unfold hstep; rw [if_pos h1, hv]
  have e2 : rstep (tk1 w) (fac w) q = (q.1 + 1, up1 q.2 q.1 (fac w)) := by unfold rstep; rw [if_neg h2]
  rw [e1, e2, hp, hq]
  exact ⟨fac w, ht, rfl, up1_hit, fun i hi => up1_ne (by omega), rfl, up1_hit, fun i hi => up1_ne (by omega)⟩
theorem bth_op {t : Bool} {val fac : Int32 → Int32} {w x y : Int32} {d : Nat} {p q p2 q2 : Stk} (hd : d < 1000) (h1 : ¬ w < nI 1010) (h10 : ¬ w = nI 1010) (h2 : nI 10 < tk1 w) (h14 : ¬ tk1 w = nI 14) (hj : joinC w x y = rjoin (tk1 w) x y) (ht : t = true → joinC w x y = nI 0 ∨ joinC w x y = nI 1) (hp : p2.1 = d + 1 + 1) (hpx : p2.2 d = x) (hpy : p2.2 (d + 1) = y) (hpi : ∀ i, i < d → p2.2 i = p.2 i) (hq : q2.1 = d + 1 + 1) (hqx : q2.2 d = x) (hqy : q2.2 (d + 1) = y) (hqi : ∀ i, i < d → q2.2 i = q.2 i) : Bth t d p q (hstep val w p2) (rstep (tk1 w) (fac w) q2) := by
  have e1 : hstep val w p2 = (d + 1, up1 p2.2 d (joinC w x y)) := by
    unfold hstep
    rw [if_neg h1, if_neg (fun z => h10 z.1), hp, if_pos (nI_lt (by omega) (by omega)), Nat.add_sub_cancel, Nat.add_sub_cancel, hpx, hpy]
  have e2 : rstep (tk1 w) (fac w) q2 = (d + 1, up1 q2.2 d (joinC w x y)) := by
    unfold rstep
    rw [if_pos h2, if_neg h14, hq, Nat.add_sub_cancel, Nat.add_sub_cancel, hqx, hqy, hj]
  rw [e1, e2]
  exact ⟨_, ht, rfl, up1_hit, fun i hi => (up1_ne (by omega)).trans (hpi i hi), rfl, up1_hit, fun i hi => (up1_ne (by omega)).trans (hqi i hi)⟩
theorem bth_two {t t1 : Bool} {val fac : Int32 → Int32} {c : Nat → Int32} {a b z d : Nat} {p q : Stk} (hab : a < b) (hbz : b < z) (hd : d < 1000) (h1 : ¬ c z < nI 1010) (h10 : ¬ c z = nI 1010) (h2 : nI 10 < tk1 (c z)) (h14 : ¬ tk1 (c z) = nI 14)
    (hj : ∀ x y, (t1 = true → x = nI 0 ∨ x = nI 1) → (t1 = true → y = nI 0 ∨ y = nI 1) → joinC (c z) x y = rjoin (tk1 (c z)) x y ∧ (t = true → joinC (c z) x y = nI 0 ∨ joinC (c z) x y = nI 1))
    (hp : p.1 = d) (hq : q.1 = d) (ix : Bth t1 d p q (hrn val c a (b - a) p) (rrn fac c a (b - a) q)) (iy : ∀ p q, p.1 = d + 1 → q.1 = d + 1 → Bth t1 (d + 1) p q (hrn val c b (z - b) p) (rrn fac c b (z - b) q)) : Bth t d p q (hrn val c a (z + 1 - a) p) (rrn fac c a (z + 1 - a) q) := by
  obtain ⟨x, hx, p1, p2, p3, q1, q2, q3⟩ := ix
  obtain ⟨y, hy, P1, P2, P3, Q1, Q2, Q3⟩ := iy _ _ p1 q1
  have hl : z + 1 - a = (b - a) + ((z - b) + 1) := by omega
  have e1 : hrn val c a (z + 1 - a) p = hstep val (c z) (hrn val c b (z - b) (hrn val c a (b - a) p)) := by
    rw [hl, hrn_add, hrn_add, show a + (b - a) = b by omega, show b + (z - b) = z by omega]; rfl
  have e2 : rrn fac c a (z + 1 - a) q = rstep (tk1 (c z)) (fac (c z)) (rrn fac c b (z - b) (rrn fac c a (b - a) q)) := by
    rw [hl, rrn_add, rrn_add, show a + (b - a) = b by omega, show b + (z - b) = z by omega]; rfl
  rw [e1, e2]
  obtain ⟨j1, j2⟩ := hj x y hx hy
  exact bth_op hd h1 h10 h2 h14 j1 j2 P1 ((P3 d (by omega)).trans p2) P2 (fun i hi => (P3 i (by omega)).trans (p3 i hi)) Q1 ((Q3 d (by omega)).trans q2) Q2 (fun i hi => (Q3 i (by omega)).trans (q3 i hi))
theorem bth_not {val fac : Int32 → Int32} {c : Nat → Int32} {a z d : Nat} {p q : Stk} (haz : a < z) (hd : d < 1000) (e : c z = nI 1010) (ix : Bth true d p q (hrn val c a (z - a) p) (rrn fac c a (z - a) q)) : Bth true d p q (hrn val c a (z + 1 - a) p) (rrn fac c a (z + 1 - a) q) := by
  obtain ⟨x, hx, p1, p2, p3, q1, q2, q3⟩ := ix
  have hl : z + 1 - a = (z - a) + 1 := by omega
  have e1 : hrn val c a (z + 1 - a) p = hstep val (c z) (hrn val c a (z - a) p) := by
    rw [hl, hrn_add, show a + (z - a) = z by omega]; rfl
  have e2 : rrn fac c a (z + 1 - a) q = rstep (tk1 (c z)) (fac (c z)) (rrn fac c a (z - a) q) := by
    rw [hl, rrn_add, show a + (z - a) = z by omega]; rfl
  rw [e1, e2, e]
  have f1 : hstep val (nI 1010) (hrn val c a (z - a) p) = (d + 1, up1 (hrn val c a (z - a) p).2 d (nI 1 - x)) := by
    unfold hstep
    rw [if_neg (by decide), p1, if_pos ⟨rfl, nI_lt (by omega) (by omega)⟩, Nat.add_sub_cancel, p2]
  have f2 : rstep (tk1 (nI 1010)) (fac (nI 1010)) (rrn fac c a (z - a) q) = (d + 1, up1 (rrn fac c a (z - a) q).2 d (nI 1 - x)) := by
    unfold rstep
    rw [show tk1 (nI 1010) = nI 14 by decide, if_pos (by decide), if_pos rfl, q1, Nat.add_sub_cancel, q2]
  rw [f1, f2]
  refine ⟨nI 1 - x, fun _ => ?_, rfl, up1_hit, fun i hi => (up1_ne (by omega)).trans (p3 i hi), rfl, up1_hit, fun i hi => (up1_ne (by omega)).trans (q3 i hi)⟩
  rcases hx rfl with h | h
  · rw [h]; decide
  · rw [h]; decide
theorem jc_11 (x y : Int32) : joinC (nI 1011) x y = x + y := by unfold joinC; rw [if_pos rfl]
theorem jc_12 (x y : Int32) : joinC (nI 1012) x y = if x < y then nI 1 else nI 0 := by unfold joinC; rw [if_neg (show ¬ nI 1012 = nI 1011 by decide), if_pos rfl]
theorem jc_13 (x y : Int32) : joinC (nI 1013) x y = if y < x then nI 1 else nI 0 := by unfold joinC; rw [if_neg (show ¬ nI 1013 = nI 1011 by decide), if_neg (show ¬ nI 1013 = nI 1012 by decide), if_pos rfl]
theorem jr_11 (x y : Int32) : rjoin (nI 11) x y = x + y := by unfold rjoin; rw [if_pos rfl]
theorem jr_12 (x y : Int32) : rjoin (nI 12) x y = if x < y then nI 1 else nI 0 := by unfold rjoin rholP; rw [if_neg (show ¬ nI 12 = nI 11 by decide), if_pos rfl]
theorem jr_13 (x y : Int32) : rjoin (nI 13) x y = if y < x then nI 1 else nI 0 := by unfold rjoin rholP; rw [if_neg (show ¬ nI 13 = nI 11 by decide), if_neg (show ¬ nI 13 = nI 12 by decide), if_pos rfl]
theorem if_bit {p : Prop} [Decidable p] : (if p then nI 1 else nI 0) = nI 0 ∨ (if p then nI 1 else nI 0) = nI 1 := by
  by_cases h : p
  · rw [if_pos h]; exact Or.inr rfl
  · rw [if_neg h]; exact Or.inl rfl
theorem jn_lgc {x y w : Int32} (hx : x = nI 0 ∨ x = nI 1) (hy : y = nI 0 ∨ y = nI 1) (hw : w = nI 1014 ∨ w = nI 1015) : joinC w x y = rjoin (tk1 w) x y ∧ (joinC w x y = nI 0 ∨ joinC w x y = nI 1) := by
  rcases hx with rfl | rfl <;> rcases hy with rfl | rfl <;> rcases hw with rfl | rfl <;> decide
/-- codes that give a value give the same in both -/
theorem exN_run {val fac : Int32 → Int32} {c : Nat → Int32} (hv : ∀ v, v < 1000 → fac (nI v) = nI v) (hw : ∀ k, k < 10 → val (nI (1000 + k)) = fac (nI (1000 + k))) (hb : ∀ k, k < 3 → fac (nI (1007 + k)) = nI 0 ∨ fac (nI (1007 + k)) = nI 1) : ∀ f t a z, ExN c f t a z → ∀ d p q, d + (z - a) ≤ 1000 → p.1 = d → q.1 = d → Bth t d p q (hrn val c a (z - a) p) (rrn fac c a (z - a) q)
  | 0 => fun _ _ _ h => h.elim
  | f + 1 => fun t a z h d p q hd hp hq => by
    rcases h with ⟨rfl, h⟩ | ⟨b, y, rfl, h2, h3, h4⟩ | ⟨y, rfl, rfl, h3, h4⟩ | ⟨b, y, rfl, rfl, h3, h4, h5⟩
    · rw [show a + 1 - a = 1 by omega]
      show Bth t d p q (hstep val (c (a + 0)) p) (rstep (tk1 (c (a + 0))) (fac (c (a + 0))) q)
      rw [Nat.add_zero]
      rcases h with ⟨rfl, ⟨v, hv9, e⟩ | ⟨k, hk, e⟩⟩ | ⟨rfl, k, hk, e⟩
      · rw [e]
        have h1 := (tk_num hv9).1
        exact bth_leaf (nI_lt (by omega) (by omega)) (by rw [h1]; decide) (by rw [if_pos (nI_lt hv9 (by omega)), hv v hv9]) (fun z => absurd z (by decide)) hp hq
      · rw [e]
        have h1 := (tk_w ⟨k, by omega⟩).1
        dsimp only at h1
        exact bth_leaf (nI_lt (by omega) (by omega)) (by rw [h1]; exact nI_nlt (by omega) (by omega)) (by rw [if_neg (nI_nlt (by omega) (by omega)), hw k (by omega)]) (fun z => absurd z (by decide)) hp hq
      · rw [e, show 1007 + k = 1000 + (7 + k) by omega]
        have h1 := (tk_w ⟨7 + k, by omega⟩).1
        dsimp only at h1
        exact bth_leaf (nI_lt (by omega) (by omega)) (by rw [h1]; exact nI_nlt (by omega) (by omega)) (by rw [if_neg (nI_nlt (by omega) (by omega)), hw (7 + k) (by omega)]) (fun _ => by rw [show 1000 + (7 + k) = 1007 + k by omega]; exact hb k hk) hp hq
    · have l1 := exN_lt f _ _ _ h2
      have l2 := exN_lt f _ _ _ h3
      have ix := exN_run hv hw hb f _ _ _ h2 d p q (by omega) hp hq
      have iy := fun p q => exN_run hv hw hb f _ _ _ h3 (d + 1) p q (by omega)
      rcases h4 with ⟨rfl, e⟩ | ⟨rfl, e | e⟩
      · exact bth_two l1 l2 (by omega) (by rw [e]; decide) (by rw [e]; decide) (by rw [e]; decide) (by rw [e]; decide) (fun x y _ _ => ⟨by rw [e, jc_11, show tk1 (nI 1011) = nI 11 by decide, jr_11], fun z => absurd z (by decide)⟩) hp hq ix iy
      · exact bth_two l1 l2 (by omega) (by rw [e]; decide) (by rw [e]; decide) (by rw [e]; decide) (by rw [e]; decide) (fun x y _ _ => ⟨by rw [e, jc_12, show tk1 (nI 1012) = nI 12 by decide, jr_12], fun _ => by rw [e, jc_12]; exact if_bit⟩) hp hq ix iy
      · exact bth_two l1 l2 (by omega) (by rw [e]; decide) (by rw [e]; decide) (by rw [e]; decide) (by rw [e]; decide) (fun x y _ _ => ⟨by rw [e, jc_13, show tk1 (nI 1013) = nI 13 by decide, jr_13], fun _ => by rw [e, jc_13]; exact if_bit⟩) hp hq ix iy
    · have l1 := exN_lt f _ _ _ h3
      exact bth_not l1 (by omega) h4 (exN_run hv hw hb f _ _ _ h3 d p q (by omega) hp hq)
    · have l1 := exN_lt f _ _ _ h3
      have l2 := exN_lt f _ _ _ h4
      have ix := exN_run hv hw hb f _ _ _ h3 d p q (by omega) hp hq
      have iy := fun p q => exN_run hv hw hb f _ _ _ h4 (d + 1) p q (by omega)
      rcases h5 with e | e
      · exact bth_two l1 l2 (by omega) (by rw [e]; decide) (by rw [e]; decide) (by rw [e]; decide) (by rw [e]; decide) (fun x y hx hy => ⟨by rw [e]; exact (jn_lgc (hx rfl) (hy rfl) (Or.inl rfl)).1, fun _ => by rw [e]; exact (jn_lgc (hx rfl) (hy rfl) (Or.inl rfl)).2⟩) hp hq ix iy
      · exact bth_two l1 l2 (by omega) (by rw [e]; decide) (by rw [e]; decide) (by rw [e]; decide) (by rw [e]; decide) (fun x y hx hy => ⟨by rw [e]; exact (jn_lgc (hx rfl) (hy rfl) (Or.inr rfl)).1, fun _ => by rw [e]; exact (jn_lgc (hx rfl) (hy rfl) (Or.inr rfl)).2⟩) hp hq ix iy
