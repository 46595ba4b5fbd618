/-! FIXED POINTS: the greatest row under a start -/
theorem max_ex {P : Nat → Prop} : ∀ b, (∃ k, P k) → (∀ k, P k → k ≤ b) → ∃ m, P m ∧ ∀ k, P k → k ≤ m
  | 0 => fun ⟨k, hk⟩ hb => ⟨k, hk, fun j hj => by have := hb j hj; omega⟩
  | b + 1 => fun he hb => by
    by_cases q : P (b + 1)
    · exact ⟨b + 1, q, hb⟩
    · exact max_ex b he (fun k hk => by
        have := hb k hk
        by_cases e : k = b + 1
        · rw [e] at hk; exact absurd hk q
        · omega)
theorem fix_ex (st us : Nat → Nat) : ∃ a, FixI st us a := by
  have h : ∀ q : Nat, ∃ m, q < 25 → (∃ g, Adm st us g ∧ g q = m) ∧ ∀ g, Adm st us g → g q ≤ m := fun q => by
    by_cases z : q < 25
    · obtain ⟨m, ⟨g, g1, g2⟩, hm⟩ := max_ex (P := fun k => ∃ g, Adm st us g ∧ g q = k) (st q) ⟨0, fun _ => 0, ⟨fun _ _ => Nat.zero_le _, fun _ _ _ _ _ => Nat.zero_le _⟩, rfl⟩ (fun k ⟨g, g1, g2⟩ => by rw [← g2]; exact g1.1 q z)
      exact ⟨m, fun _ => ⟨⟨g, g1, g2⟩, fun g hg => hm _ ⟨g, hg, rfl⟩⟩⟩
    · exact ⟨0, fun y => absurd y z⟩
  have ha : ∀ q, q < 25 → (∃ g, Adm st us g ∧ g q = Classical.choose (h q)) ∧ ∀ g, Adm st us g → g q ≤ Classical.choose (h q) := fun q hq => Classical.choose_spec (h q) hq
  refine ⟨fun q => Classical.choose (h q), ⟨fun q hq => ?_, fun c q hc hq hb => ?_⟩, fun g hg q hq => (ha q hq).2 g hg⟩
  · obtain ⟨⟨g, g1, g2⟩, -⟩ := ha q hq
    show Classical.choose (h q) ≤ st q
    rw [← g2]; exact g1.1 q hq
  · obtain ⟨⟨g, g1, g2⟩, -⟩ := ha c hc
    show Classical.choose (h c) ≤ Classical.choose (h q) + us c
    rw [← g2]
    have := g1.2 c q hc hq hb
    have := (ha q hq).2 g g1
    omega
theorem fix_un {st us a b : Nat → Nat} (h : FixI st us a) (g : FixI st us b) : ∀ q, q < 25 → a q = b q := fun q hq => Nat.le_antisymm (g.2 a h.1 q hq) (h.2 b g.1 q hq)
theorem bes_no : ∀ c : Fin 25, ¬ hasP (besB c.1) c.1 := by decide +kernel
theorem bes_sm : ∀ c : Fin 25, ∀ q : Fin 25, hasP (besB c.1) q.1 → hasP (besB q.1) c.1 := by decide +kernel
/-- a cell has its start, or comes from one beside it -/
theorem fix_tight {st us a : Nat → Nat} (h : FixI st us a) {c : Nat} (hc : c < 25) : a c = st c ∨ ∃ q, q < 25 ∧ hasP (besB c) q ∧ a c = a q + us c := by
  apply Classical.byContradiction
  intro hn
  have h1 : a c < st c := by
    have := h.1.1 c hc
    have : ¬ a c = st c := fun e => hn (Or.inl e)
    omega
  have h2 : ∀ q, q < 25 → hasP (besB c) q → a c < a q + us c := fun q hq hb => by
    have := h.1.2 c q hc hq hb
    have : ¬ a c = a q + us c := fun e => hn (Or.inr ⟨q, hq, hb, e⟩)
    omega
  have hA : Adm st us (fun j => if j = c then a c + 1 else a j) := by
    refine ⟨fun q hq => ?_, fun x q hx hq hb => ?_⟩
    · show (if q = c then a c + 1 else a q) ≤ st q
      by_cases e : q = c
      · rw [if_pos e, e]; omega
      · rw [if_neg e]; exact h.1.1 q hq
    · show (if x = c then a c + 1 else a x) ≤ (if q = c then a c + 1 else a q) + us x
      by_cases e : x = c
      · subst e
        have hne : ¬ q = x := fun z => by rw [z] at hb; exact bes_no ⟨x, hx⟩ hb
        rw [if_pos rfl, if_neg hne]
        have := h2 q hq hb
        omega
      · rw [if_neg e]
        have := h.1.2 x q hx hq hb
        by_cases z : q = c
        · rw [if_pos z]; rw [z] at this; omega
        · rw [if_neg z]; exact this
  have := h.2 _ hA c hc
  rw [if_pos rfl] at this
  omega
def dstN (c q : Nat) : Nat := (c % 5 - q % 5) + (q % 5 - c % 5) + (c / 5 - q / 5) + (q / 5 - c / 5)
theorem dst_st : ∀ c : Fin 25, ∀ q : Fin 25, ¬ c = q → ∃ x : Fin 25, hasP (besB c.1) x.1 ∧ dstN x.1 q.1 + 1 = dstN c.1 q.1 := by decide +kernel
theorem dst_0 : ∀ c : Fin 25, ∀ q : Fin 25, dstN c.1 q.1 ≤ 8 ∧ (dstN c.1 q.1 = 0 → c = q) := by decide +kernel
theorem adm_far {st us a : Nat → Nat} {U : Nat} (h : Adm st us a) (hu : ∀ c, c < 25 → us c ≤ U) {q : Nat} (hq : q < 25) : ∀ d c, c < 25 → dstN c q = d → a c ≤ a q + d * U
  | 0 => fun c hc hd => by
    have := (dst_0 ⟨c, hc⟩ ⟨q, hq⟩).2 hd
    have e : c = q := congrArg Fin.val this
    rw [e]; omega
  | d + 1 => fun c hc hd => by
    have hne : ¬ (⟨c, hc⟩ : Fin 25) = ⟨q, hq⟩ := fun e => by
      have e2 : c = q := congrArg Fin.val e
      rw [e2] at hd
      unfold dstN at hd
      omega
    obtain ⟨x, x1, x2⟩ := dst_st ⟨c, hc⟩ ⟨q, hq⟩ hne
    dsimp only at x1 x2
    have h1 := adm_far h hu hq d x.1 x.2 (by omega)
    have h2 := h.2 c x.1 hc x.2 x1
    have h3 := hu c hc
    rw [Nat.succ_mul]; omega
theorem adm_8 {st us a : Nat → Nat} {U : Nat} (h : Adm st us a) (hu : ∀ c, c < 25 → us c ≤ U) {c q : Nat} (hc : c < 25) (hq : q < 25) : a c ≤ a q + 8 * U := by
  have h1 := adm_far h hu hq (dstN c q) c hc rfl
  have h2 := (dst_0 ⟨c, hc⟩ ⟨q, hq⟩).1
  dsimp only at h2
  have h3 : dstN c q * U ≤ 8 * U := Nat.mul_le_mul_right U h2
  omega
/-! what is beside, in the class -/
theorem nb_bes : ∀ c : Fin 25, ∀ q : Fin 25, (nbO c.1 0 = some q.1 ∨ nbO c.1 1 = some q.1 ∨ nbO c.1 2 = some q.1 ∨ nbO c.1 3 = some q.1) ↔ hasP (besB c.1) q.1 := by decide +kernel
theorem nb_w {c w q : Nat} (hc : c < 25) (hw : w < 4) (h : nbO c w = some q) : q < 25 ∧ hasP (besB c) q := by
  have hq := nbO_lt hc h
  refine ⟨hq, (nb_bes ⟨c, hc⟩ ⟨q, hq⟩).mp ?_⟩
  have : w = 0 ∨ w = 1 ∨ w = 2 ∨ w = 3 := by omega
  rcases this with rfl | rfl | rfl | rfl
  · exact Or.inl h
  · exact Or.inr (Or.inl h)
  · exact Or.inr (Or.inr (Or.inl h))
  · exact Or.inr (Or.inr (Or.inr h))
theorem lbn_sp {D : Nat → Int32} {v : Nat → Nat} {c : Nat} (hc : c < 25) (hD : ∀ j, j < 25 → D j = nI (v j) ∧ v j ≤ 1000000) : ∀ i, i ≤ 4 → ∃ m, lbN D c i = nI m ∧ m ≤ 1000000 ∧ (∀ w q, w < i → nbO c w = some q → m ≤ v q) ∧ (m = 1000000 ∨ ∃ w q, w < i ∧ nbO c w = some q ∧ m = v q)
  | 0 => fun _ => ⟨1000000, rfl, Nat.le_refl _, fun w q h => absurd h (by omega), Or.inl rfl⟩
  | i + 1 => fun hi => by
    obtain ⟨m, m1, m2, m3, m4⟩ := lbn_sp hc hD i (by omega)
    cases e : nbO c i with
    | none =>
      rw [lbN_n e]
      refine ⟨m, m1, m2, fun w q hw hq => ?_, m4.imp id (fun ⟨w, q, h1, h2, h3⟩ => ⟨w, q, by omega, h2, h3⟩)⟩
      by_cases z : w = i
      · rw [z, e] at hq; cases hq
      · exact m3 w q (by omega) hq
    | some k =>
      have hk := (nb_w hc (by omega) e).1
      obtain ⟨d1, d2⟩ := hD k hk
      rw [lbN_s e, m1, d1]
      have hj : jmin (nI m) (nI (v k)) = nI (min m (v k)) := by
        unfold jmin
        by_cases z : nI (v k) < nI m
        · rw [if_pos z]
          have := nI_lt_inv (by omega) (by omega) z
          rw [Nat.min_eq_right (by omega)]
        · rw [if_neg z]
          have := ge_nI z (by omega)
          rw [Nat.min_eq_left (by omega)]
      refine ⟨min m (v k), hj, by omega, fun w q hw hq => ?_, ?_⟩
      · by_cases z : w = i
        · rw [z, e] at hq; cases hq; omega
        · have := m3 w q (by omega) hq; omega
      · by_cases z : v k < m
        · exact Or.inr ⟨i, k, by omega, e, by omega⟩
        · rw [Nat.min_eq_left (by omega)]
          exact m4.imp id (fun ⟨w, q, h1, h2, h3⟩ => ⟨w, q, by omega, h2, h3⟩)
theorem lbc_sp {D : Nat → Int32} {v : Nat → Nat} {c : Nat} (hc : c < 25) (hD : ∀ j, j < 25 → D j = nI (v j) ∧ v j ≤ 1000000) : ∃ m, lbC D c = nI m ∧ m ≤ 1000000 ∧ (∀ q, q < 25 → hasP (besB c) q → m ≤ v q) ∧ (m = 1000000 ∨ ∃ q, q < 25 ∧ hasP (besB c) q ∧ m = v q) := by
  obtain ⟨m, m1, m2, m3, m4⟩ := lbn_sp hc hD 4 (Nat.le_refl _)
  refine ⟨m, m1, m2, fun q hq hb => ?_, m4.imp id (fun ⟨w, q, h1, h2, h3⟩ => ⟨q, (nb_w hc h1 h2).1, (nb_w hc h1 h2).2, h3⟩)⟩
  rcases (nb_bes ⟨c, hc⟩ ⟨q, hq⟩).mpr hb with z | z | z | z
  · exact m3 0 q (by decide) z
  · exact m3 1 q (by decide) z
  · exact m3 2 q (by decide) z
  · exact m3 3 q (by decide) z
/-! a round of relaxing -/
def RdR (us v : Nat → Nat) (lo k : Nat) (D : Nat → Int32) (u : Nat → Nat) : Prop := (∀ j, j < 25 → D j = nI (u j)) ∧ (∀ j, j < 25 → u j ≤ v j) ∧ (∀ g : Nat → Nat, (∀ c q, lo ≤ c → c < 25 → q < 25 → hasP (besB c) q → g c ≤ g q + us c) → (∀ j, j < 25 → g j ≤ v j) → ∀ j, j < 25 → g j ≤ u j) ∧ ∀ c q, lo ≤ c → c < lo + k → q < 25 → hasP (besB c) q → u c ≤ v q + us c
theorem rli_sp {f : Nat → Int32 → Int32} {us v : Nat → Nat} {lo : Nat} {D : Nat → Int32} {fl : Int32} (hf : ∀ c m, c < 25 → m ≤ 1000000 → f c (nI m) = nI (m + us c)) (hu : ∀ c, c < 25 → us c ≤ 1000000) (hD : ∀ j, j < 25 → D j = nI (v j) ∧ v j ≤ 1000000) : ∀ k, lo + k ≤ 25 → ∃ u, RdR us v lo k (rlI f lo (D, fl) k).1 u
  | 0 => fun _ => ⟨v, fun j hj => (hD j hj).1, fun _ _ => Nat.le_refl _, fun g _ h => h, fun c q h1 h2 => absurd h2 (by omega)⟩
  | k + 1 => fun hk => by
    obtain ⟨u, r1, r2, r3, r4⟩ := rli_sp (lo := lo) (fl := fl) hf hu hD k (by omega)
    have hc : lo + k < 25 := by omega
    have hDu : ∀ j, j < 25 → (rlI f lo (D, fl) k).1 j = nI (u j) ∧ u j ≤ 1000000 := fun j hj => ⟨r1 j hj, Nat.le_trans (r2 j hj) (hD j hj).2⟩
    obtain ⟨m, m1, m2, m3, m4⟩ := lbc_sp hc hDu
    have huc := hu (lo + k) hc
    show ∃ u, RdR us v lo (k + 1) (rlS f (lo + k) (rlI f lo (D, fl) k)).1 u
    unfold rlS
    rw [m1, hf (lo + k) m hc m2, r1 (lo + k) hc]
    have hbd := (hDu (lo + k) hc).2
    by_cases z : nI (m + us (lo + k)) < nI (u (lo + k))
    · rw [if_pos z]
      have hlt := nI_lt_inv (by omega) (by omega) z
      refine ⟨up1 u (lo + k) (m + us (lo + k)), fun j hj => ?_, fun j hj => ?_, fun g g1 g2 j hj => ?_, fun c q h1 h2 hq hb => ?_⟩
      · show up1 _ (lo + k) _ j = _
        by_cases e : j = lo + k
        · rw [e, up1_hit, up1_hit]
        · rw [up1_ne e, up1_ne e]; exact r1 j hj
      · by_cases e : j = lo + k
        · rw [e, up1_hit]; have := r2 (lo + k) hc; omega
        · rw [up1_ne e]; exact r2 j hj
      · by_cases e : j = lo + k
        · rw [e, up1_hit]
          rcases m4 with y | ⟨q, q1, q2, q3⟩
          · omega
          · have := g1 (lo + k) q (by omega) hc q1 q2
            have := r3 g g1 g2 q q1
            omega
        · rw [up1_ne e]; exact r3 g g1 g2 j hj
      · by_cases e : c = lo + k
        · rw [e, up1_hit]
          rw [e] at hb
          have := m3 q hq hb
          have := r2 q hq
          omega
        · rw [up1_ne e]; exact r4 c q h1 (by omega) hq hb
    · rw [if_neg z]
      have hge := ge_nI z (by omega)
      refine ⟨u, r1, r2, r3, fun c q h1 h2 hq hb => ?_⟩
      by_cases e : c = lo + k
      · rw [e] at hb ⊢
        have := m3 q hq hb
        have := r2 q hq
        omega
      · exact r4 c q h1 (by omega) hq hb
theorem rli_0 {f : Nat → Int32 → Int32} {lo : Nat} {D : Nat → Int32} : ∀ k, (rlI f lo (D, nI 0) k).2 = nI 0 → (rlI f lo (D, nI 0) k).1 = D
  | 0 => fun _ => rfl
  | k + 1 => fun h => by
    have h' : (rlS f (lo + k) (rlI f lo (D, nI 0) k)).2 = nI 0 := h
    show (rlS f (lo + k) (rlI f lo (D, nI 0) k)).1 = D
    unfold rlS at h' ⊢
    by_cases z : f (lo + k) (lbC (rlI f lo (D, nI 0) k).1 (lo + k)) < (rlI f lo (D, nI 0) k).1 (lo + k)
    · rw [if_pos z] at h'; exact absurd h' (show ¬ nI 1 = nI 0 by decide)
    · rw [if_neg z] at h' ⊢; exact rli_0 k h'
def itR (f : Nat → Int32 → Int32) (lo w : Nat) (g : Nat → Int32) (i : Nat) : Nat → Int32 := forN (fun _ D => (rlI f lo (D, nI 0) w).1) g i
theorem rlo_it {f : Nat → Int32 → Int32} {lo w : Nat} {g : Nat → Int32} : ∀ i, (rlO f lo w g i).1 = itR f lo w g i ∧ ((rlO f lo w g i).2 = nI 0 → (rlI f lo ((rlO f lo w g i).1, nI 0) w).1 = (rlO f lo w g i).1)
  | 0 => ⟨rfl, fun h => absurd h (show ¬ nI 1 = nI 0 by decide)⟩
  | i + 1 => by
    obtain ⟨i1, i2⟩ := rlo_it (f := f) (lo := lo) (w := w) (g := g) i
    show (rlX f lo w (rlO f lo w g i)).1 = (rlI f lo (itR f lo w g i, nI 0) w).1 ∧ ((rlX f lo w (rlO f lo w g i)).2 = nI 0 → (rlI f lo ((rlX f lo w (rlO f lo w g i)).1, nI 0) w).1 = (rlX f lo w (rlO f lo w g i)).1)
    unfold rlX
    by_cases z : (rlO f lo w g i).2 = nI 0
    · rw [if_pos z, ← i1]
      exact ⟨(i2 z).symm, fun _ => i2 z⟩
    · rw [if_neg z, ← i1]
      refine ⟨rfl, fun h => ?_⟩
      rw [rli_0 w h, rli_0 w h]
theorem cnt_le {P Q : Nat → Prop} [∀ i, Decidable (P i)] [∀ i, Decidable (Q i)] : ∀ n, (∀ j, j < n → P j → Q j) → cntL P n ≤ cntL Q n
  | 0 => fun _ => Nat.le_refl _
  | n + 1 => fun h => by
    have ih := cnt_le n (fun j hj => h j (by omega))
    rw [cntL_s, cntL_s]
    by_cases z : P n
    · rw [if_pos z, if_pos (h n (by omega) z)]; omega
    · rw [if_neg z]; split <;> omega
theorem cnt_lt {P Q : Nat → Prop} [∀ i, Decidable (P i)] [∀ i, Decidable (Q i)] {x : Nat} (hq : Q x) (hp : ¬ P x) : ∀ n, x < n → (∀ j, j < n → P j → Q j) → cntL P n + 1 ≤ cntL Q n
  | 0 => fun h => absurd h (by omega)
  | n + 1 => fun hx h => by
    rw [cntL_s, cntL_s]
    by_cases e : x = n
    · subst e
      have ih := cnt_le x (fun j hj => h j (by omega))
      rw [if_neg hp, if_pos hq]; omega
    · have ih := cnt_lt hq hp n (by omega) (fun j hj => h j (by omega))
      by_cases z : P n
      · rw [if_pos z, if_pos (h n (by omega) z)]; omega
      · rw [if_neg z]; split <;> omega
theorem cnt_n {P : Nat → Prop} [∀ i, Decidable (P i)] : ∀ n, cntL P n ≤ n
  | 0 => Nat.le_refl _
  | n + 1 => by have := cnt_n (P := P) n; rw [cntL_s]; split <;> omega
theorem cnt_all {P : Nat → Prop} [∀ i, Decidable (P i)] : ∀ n, n ≤ cntL P n → ∀ j, j < n → P j
  | 0 => fun _ j hj => absurd hj (by omega)
  | n + 1 => fun h j hj => by
    rw [cntL_s] at h
    have h1 := cnt_n (P := P) n
    by_cases z : P n
    · rw [if_pos z] at h
      by_cases e : j = n
      · rw [e]; exact z
      · exact cnt_all n (by omega) j (by omega)
    · rw [if_neg z] at h; omega
/-- relaxed row by row, 25 times, a row comes to its greatest one -/
theorem rlx_fix {f : Nat → Int32 → Int32} {st us a : Nat → Nat} {lo w : Nat} {g : Nat → Int32} (hlw : lo + w = 25) (hf : ∀ c m, c < 25 → m ≤ 1000000 → f c (nI m) = nI (m + us c)) (hu : ∀ c, c < 25 → us c ≤ 1000000) (hg : ∀ j, j < 25 → g j = nI (st j) ∧ st j ≤ 1000000) (hlo : ∀ c, c < lo → st c ≤ us c) (ha : FixI st us a) : ∀ j, j < 25 → rlV f lo w g j = nI (a j) := by
  have key : ∀ i, ∃ v : Nat → Nat, (∀ j, j < 25 → itR f lo w g i j = nI (v j)) ∧ (∀ j, j < 25 → v j ≤ st j ∧ a j ≤ v j) ∧ ((∀ j, j < 25 → v j = a j) ∨ i ≤ cntL (fun j => v j = a j) 25) := by
    intro i
    induction i with
    | zero => exact ⟨st, fun j hj => (hg j hj).1, fun j hj => ⟨Nat.le_refl _, ha.1.1 j hj⟩, Or.inr (Nat.zero_le _)⟩
    | succ i ih =>
      obtain ⟨v, v1, v2, v3⟩ := ih
      obtain ⟨u, r1, r2, r3, r4⟩ := rli_sp (us := us) (v := v) (lo := lo) (D := itR f lo w g i) (fl := nI 0) hf hu (fun j hj => ⟨v1 j hj, Nat.le_trans (v2 j hj).1 (hg j hj).2⟩) w (by omega)
      have hau : ∀ j, j < 25 → a j ≤ u j := r3 a (fun c q _ hc hq hb => ha.1.2 c q hc hq hb) (fun j hj => (v2 j hj).2)
      refine ⟨u, r1, fun j hj => ⟨Nat.le_trans (r2 j hj) (v2 j hj).1, hau j hj⟩, ?_⟩
      by_cases hall : ∀ j, j < 25 → v j = a j
      · left
        intro j hj
        have := hall j hj
        have := r2 j hj
        have := hau j hj
        omega
      · right
        have h3 := v3.resolve_left hall
        have hm : ∀ j, j < 25 → v j = a j → u j = a j := fun j hj e => by
          have := r2 j hj
          have := hau j hj
          omega
        have hex : ∃ x, x < 25 ∧ u x = a x ∧ ¬ v x = a x := by
          apply Classical.byContradiction
          intro hn
          have hno : ∀ j, j < 25 → ¬ v j = a j → a j + 1 ≤ u j := fun j hj e => by
            have h1 := hau j hj
            have : ¬ u j = a j := fun z => hn ⟨j, hj, z, e⟩
            omega
          have hA : Adm st us (fun j => if v j = a j then a j else a j + 1) := by
            refine ⟨fun q hq => ?_, fun c q hc hq hb => ?_⟩
            · show (if v q = a q then a q else a q + 1) ≤ st q
              by_cases e : v q = a q
              · rw [if_pos e]; exact ha.1.1 q hq
              · rw [if_neg e]
                have := hno q hq e
                have := r2 q hq
                have := (v2 q hq).1
                omega
            · show (if v c = a c then a c else a c + 1) ≤ (if v q = a q then a q else a q + 1) + us c
              have hcq := ha.1.2 c q hc hq hb
              by_cases e : v c = a c
              · rw [if_pos e]; split <;> omega
              · rw [if_neg e]
                by_cases z : v q = a q
                · rw [if_pos z]
                  have h1 := hno c hc e
                  by_cases y : lo ≤ c
                  · have := r4 c q y (by omega) hq hb
                    omega
                  · have := hlo c (by omega)
                    have := r2 c hc
                    have := (v2 c hc).1
                    omega
                · rw [if_neg z]; omega
          apply hall
          intro j hj
          apply Classical.byContradiction
          intro e
          have := ha.2 _ hA j hj
          rw [if_neg e] at this
          omega
        obtain ⟨x, x1, x2, x3⟩ := hex
        have := cnt_lt (P := fun j => v j = a j) (Q := fun j => u j = a j) x2 x3 25 x1 hm
        omega
  obtain ⟨v, v1, v2, v3⟩ := key 25
  have hv : ∀ j, j < 25 → v j = a j := by
    rcases v3 with e | e
    · exact e
    · exact cnt_all 25 e
  intro j hj
  unfold rlV
  rw [(rlo_it 25).1, v1 j hj, hv j hj]
