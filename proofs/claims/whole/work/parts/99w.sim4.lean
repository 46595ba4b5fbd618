/-! THE RELATION: what the reader of a law writes is well made -/
def Px (T : Nat) (t : Bool) (F : Sz → Nat → Re) : Prop := ∀ st p, p ≤ T → st.2 + 1 ≤ p → (F st p).1 = true → Ex (F st p).2.1.1 t st.2 (F st p).2.1.2 ∧ ∀ i, i < st.2 → (F st p).2.1.1 i = st.1 i
theorem put_at {st : Sz} {v : Int32} (h : st.2 < 400) : putS st v = (up1 st.1 st.2 v, st.2 + 1) := if_pos h
theorem num_up {tv : Nat → Nat} {T p v z : Nat} (hp : p ≤ T) (h : numR tv T p (nI 0) (nI 999) = some (v, z)) : v < 1000 := by
  have hl := dgN_lt (tv := tv) hp
  unfold numR at h
  split at h
  · cases h
  · rename_i hn
    have hz : (dgN tv T p).2 = v := by cases h; rfl
    have h1 : ¬ nI 999 < nI (dgN tv T p).2 := fun q => hn (Or.inr (Or.inr (Or.inr q)))
    have := ge_nI h1 (by omega)
    omega
theorem par_px {tv : Nat → Nat} {T p z : Nat} {st s2 : Sz} (hp : p ≤ T) (hs : st.2 < 400) (h : parF tv T st p = some (s2, z)) : s2.2 = st.2 + 1 ∧ Ex s2.1 false st.2 (st.2 + 1) ∧ ∀ i, i < st.2 → s2.1 i = st.1 i := by
  by_cases c : atDg tv T p
  · cases hN : numR tv T p (nI 0) (nI 999) with
    | none => unfold parF at h; rw [if_pos c, hN] at h; cases h
    | some x =>
      obtain ⟨v, y⟩ := x
      rw [parF_d c hN] at h
      have hx : putS st (nI v) = s2 := by cases h; rfl
      have hv : v < 1000 := num_up hp hN
      rw [← hx, put_at hs]
      exact ⟨rfl, ex_num hv up1_hit, fun i hi => up1_ne (by omega)⟩
  · cases hN : wd tv T p parW with
    | none => unfold parF at h; rw [if_neg c, hN] at h; cases h
    | some k =>
      rw [parF_w c hN] at h
      have hx : putS st (nI (1000 + k)) = s2 := by cases h; rfl
      rw [← hx, put_at hs]
      exact ⟨rfl, ex_wrd (wd_lt hN) up1_hit, fun i hi => up1_ne (by omega)⟩
theorem sumF_px {tv : Nat → Nat} {T : Nat} (hT : T ≤ 400) : ∀ f i st p a, Ex st.1 false a st.2 → st.2 + 2 ≤ p → p ≤ T → (sumF tv T f (i + 1) st p).1 = true → Ex (sumF tv T f (i + 1) st p).2.1.1 false a (sumF tv T f (i + 1) st p).2.1.2 ∧ ∀ j, j < st.2 → (sumF tv T f (i + 1) st p).2.1.1 j = st.1 j
  | 0, i, st, p, a => fun _ _ _ h => absurd (show false = true from h) (by decide)
  | f + 1, i, st, p, a => fun hE hs hp h => by
    cases hP : parF tv T st p with
    | none => rw [sumF_n hP] at h; exact absurd (show false = true from h) (by decide)
    | some x =>
      obtain ⟨s2, z⟩ := x
      have hg := parF_gr hp hP
      obtain ⟨p1, p2, p3⟩ := par_px hp (by omega) hP
      have hl := ex_lt hE
      rw [sumF_s hP, add_p, put_at (by omega), p1] at h ⊢
      have hE3 : Ex (up1 s2.1 (st.2 + 1) (nI 1011)) false a (st.2 + 1 + 1) := ex_add (ex_cg hE (fun i i1 i2 => by rw [up1_ne (by omega)]; exact p3 i i2)) (ex_cg p2 (fun i i1 i2 => by rw [up1_ne (by omega)])) up1_hit
      have hj : ∀ j, j < st.2 → up1 s2.1 (st.2 + 1) (nI 1011) j = st.1 j := fun j hj => (up1_ne (by omega)).trans (p3 j hj)
      unfold sumK at h ⊢
      by_cases c : sgn tv T z 43
      · rw [if_pos c] at h ⊢
        have hs2 := skp_ge (tv := tv) (p := z + 1) (T := T) c.1
        obtain ⟨r1, r2⟩ := sumF_px hT f (i + 1) (up1 s2.1 (st.2 + 1) (nI 1011), st.2 + 1 + 1) (skp tv T (z + 1)) a hE3 (show st.2 + 1 + 1 + 2 ≤ skp tv T (z + 1) by omega) hs2.2 h
        exact ⟨r1, fun j j1 => (r2 j (show j < st.2 + 1 + 1 by omega)).trans (hj j j1)⟩
      · rw [if_neg c]
        exact ⟨hE3, hj⟩
theorem sum_px {tv : Nat → Nat} {T : Nat} (hT : T ≤ 400) : Px T false (sumP tv T) := fun st p hp hs h => by
  unfold sumP at h ⊢
  cases hP : parF tv T st p with
  | none => rw [sumF_n hP] at h; exact absurd (show false = true from h) (by decide)
  | some x =>
    obtain ⟨s2, z⟩ := x
    have hg := parF_gr hp hP
    obtain ⟨p1, p2, p3⟩ := par_px hp (by omega) hP
    rw [sumF_s hP, show addS 0 s2 = s2 from rfl] at h ⊢
    rw [← p1] at p2
    unfold sumK at h ⊢
    by_cases c : sgn tv T z 43
    · rw [if_pos c] at h ⊢
      have hs2 := skp_ge (tv := tv) (p := z + 1) (T := T) c.1
      obtain ⟨r1, r2⟩ := sumF_px hT 399 0 s2 (skp tv T (z + 1)) st.2 p2 (by omega) hs2.2 h
      exact ⟨r1, fun j j1 => (r2 j (by omega)).trans (p3 j j1)⟩
    · rw [if_neg c]
      exact ⟨p2, p3⟩
/-- two values and what joins them -/
theorem px_two {t t2 : Bool} {s0 s1 s2 : Sz} {v : Int32} (hz : s2.2 < 400) (h1 : Ex s1.1 t s0.2 s1.2 ∧ ∀ i, i < s0.2 → s1.1 i = s0.1 i) (h2 : Ex s2.1 t s1.2 s2.2 ∧ ∀ i, i < s1.2 → s2.1 i = s1.1 i) (hj : ∀ c : Nat → Int32, Ex c t s0.2 s1.2 → Ex c t s1.2 s2.2 → c s2.2 = v → Ex c t2 s0.2 (s2.2 + 1)) : Ex (putS s2 v).1 t2 s0.2 (putS s2 v).2 ∧ ∀ i, i < s0.2 → (putS s2 v).1 i = s0.1 i := by
  have l1 := ex_lt h1.1
  have l2 := ex_lt h2.1
  rw [put_at hz]
  refine ⟨hj _ (ex_cg h1.1 (fun i i1 i2 => ?_)) (ex_cg h2.1 (fun i i1 i2 => up1_ne (by omega))) up1_hit, fun i hi => ?_⟩
  · exact (up1_ne (by omega)).trans (h2.2 i i2)
  · exact (up1_ne (by omega)).trans ((h2.2 i (by omega)).trans (h1.2 i hi))
theorem cmp_px {tv : Nat → Nat} {T : Nat} (hT : T ≤ 400) : Px T true (cmpF tv T) := fun st p hp hs h => by
  unfold cmpF at h ⊢
  by_cases c : (sumP tv T st p).1 = true
  · have g1 := gr_sum st p hp c
    have x1 := sum_px hT st p hp hs c
    rw [if_pos c] at h ⊢
    generalize sumP tv T st p = r1 at *
    by_cases c1 : sgn tv T r1.2.2 60
    · rw [if_pos c1] at h ⊢
      have hs1 := skp_ge (tv := tv) (p := r1.2.2 + 1) (T := T) c1.1
      by_cases c2 : (sumP tv T r1.2.1 (skp tv T (r1.2.2 + 1))).1 = true
      · have g2 := gr_sum r1.2.1 _ hs1.2 c2
        have x2 := sum_px hT r1.2.1 _ hs1.2 (by omega) c2
        rw [if_pos c2]
        exact px_two (by omega) x1 x2 (fun c a b e => ex_cmp a b (Or.inl e))
      · rw [if_neg c2] at h; exact absurd h c2
    · rw [if_neg c1] at h ⊢
      by_cases c3 : sgn tv T r1.2.2 62
      · rw [if_pos c3] at h ⊢
        have hs1 := skp_ge (tv := tv) (p := r1.2.2 + 1) (T := T) c3.1
        by_cases c2 : (sumP tv T r1.2.1 (skp tv T (r1.2.2 + 1))).1 = true
        · have g2 := gr_sum r1.2.1 _ hs1.2 c2
          have x2 := sum_px hT r1.2.1 _ hs1.2 (by omega) c2
          rw [if_pos c2]
          exact px_two (by omega) x1 x2 (fun c a b e => ex_cmp a b (Or.inr e))
        · rw [if_neg c2] at h; exact absurd h c2
      · rw [if_neg c3] at h; exact absurd (show false = true from h) (by decide)
  · rw [if_neg c] at h; exact absurd h c
theorem bas_px {tv : Nat → Nat} {T : Nat} (hT : T ≤ 400) : Px T true (basF tv T) := fun st p hp hs h => by
  unfold basF at h ⊢
  cases hk : wd tv T p facW with
  | some k =>
    show Ex (putS st (nI (1007 + k))).1 true st.2 (putS st (nI (1007 + k))).2 ∧ ∀ i, i < st.2 → (putS st (nI (1007 + k))).1 i = st.1 i
    rw [put_at (by omega)]
    exact ⟨ex_fct (wd_lt hk) up1_hit, fun i hi => up1_ne (by omega)⟩
  | none => rw [hk] at h; exact cmp_px hT st p hp hs h
theorem lisL_px {tv : Nat → Nat} {T : Nat} {w : List Nat} {v : Int32} {A : Sz → Nat → Re} (hT : T ≤ 400) (hw : 1 ≤ w.length) (hv : v = nI 1014 ∨ v = nI 1015) (hA : Px T true A) (hG : Gr T A) : ∀ f st p s0, Ex st.1 true s0 st.2 → st.2 + 1 ≤ p → p ≤ T → (lisL tv T w v A f st p).1 = true → Ex (lisL tv T w v A f st p).2.1.1 true s0 (lisL tv T w v A f st p).2.1.2 ∧ ∀ j, j < st.2 → (lisL tv T w v A f st p).2.1.1 j = st.1 j
  | 0, st, p, s0 => fun hE _ _ _ => ⟨hE, fun _ _ => rfl⟩
  | f + 1, st, p, s0 => fun hE hs hp h => by
    rw [lisL] at h ⊢
    by_cases c : wdB tv T p w = true
    · rw [if_pos c] at h ⊢
      have hl := wdB_len c
      have ha := af_gt (tv := tv) hp
      by_cases c2 : (A st (af tv T p)).1 = true
      · rw [if_pos c2] at h ⊢
        have g1 := hG st _ ha.2 c2
        have x1 := hA st _ ha.2 (by omega) c2
        generalize A st (af tv T p) = r at *
        have l1 := ex_lt x1.1
        rw [put_at (by omega)] at h ⊢
        have hE3 : Ex (up1 r.2.1.1 r.2.1.2 v) true s0 (r.2.1.2 + 1) := ex_lgc (ex_cg hE (fun i i1 i2 => (up1_ne (by omega)).trans (x1.2 i i2))) (ex_cg x1.1 (fun i i1 i2 => up1_ne (by omega))) (by rw [up1_hit]; exact hv)
        obtain ⟨r1, r2⟩ := lisL_px hT hw hv hA hG f (up1 r.2.1.1 r.2.1.2 v, r.2.1.2 + 1) r.2.2 s0 hE3 (show r.2.1.2 + 1 + 1 ≤ r.2.2 by omega) g1.2 h
        exact ⟨r1, fun j j1 => (r2 j (show j < r.2.1.2 + 1 by omega)).trans ((up1_ne (by omega)).trans (x1.2 j j1))⟩
      · rw [if_neg c2] at h; exact absurd h c2
    · rw [if_neg c]; exact ⟨hE, fun _ _ => rfl⟩
theorem lis_px {tv : Nat → Nat} {T : Nat} {w : List Nat} {v : Int32} {A : Sz → Nat → Re} (hT : T ≤ 400) (hw : 1 ≤ w.length) (hv : v = nI 1014 ∨ v = nI 1015) (hA : Px T true A) (hG : Gr T A) : Px T true (lisF tv T w v A) := fun st p hp hs h => by
  unfold lisF at h ⊢
  by_cases c : (A st p).1 = true
  · rw [if_pos c] at h ⊢
    have g1 := hG st p hp c
    have x1 := hA st p hp hs c
    generalize A st p = r at *
    have l1 := ex_lt x1.1
    obtain ⟨r1, r2⟩ := lisL_px hT hw hv hA hG 400 r.2.1 r.2.2 st.2 x1.1 (by omega) g1.2 h
    exact ⟨r1, fun j j1 => (r2 j (by omega)).trans (x1.2 j j1)⟩
  · rw [if_neg c] at h; exact absurd h c
theorem ato_px {tv : Nat → Nat} {T : Nat} (hT : T ≤ 400) : ∀ e, Px T true (atoF tv T e)
  | 0 => bas_px hT
  | e + 1 => fun st p hp hs h => by
    have ih := ato_px (tv := tv) hT e
    have ig := gr_ato (tv := tv) (T := T) e
    by_cases c : wdB tv T p kNot = true
    · rw [ato_n c] at h ⊢
      have hl : letN tv T p = 3 := wdB_len c
      have ha := af_gt (tv := tv) hp
      unfold notF at h ⊢
      by_cases c2 : (atoF tv T e st (af tv T p)).1 = true
      · rw [if_pos c2]
        have g1 := ig st _ ha.2 c2
        have x1 := ih st _ ha.2 (by omega) c2
        generalize atoF tv T e st (af tv T p) = r at *
        have l1 := ex_lt x1.1
        show Ex (putS r.2.1 (nI 1010)).1 true st.2 (putS r.2.1 (nI 1010)).2 ∧ ∀ i, i < st.2 → (putS r.2.1 (nI 1010)).1 i = st.1 i
        rw [put_at (by omega)]
        exact ⟨ex_not (ex_cg x1.1 (fun i i1 i2 => up1_ne (by omega))) up1_hit, fun i hi => (up1_ne (by omega)).trans (x1.2 i hi)⟩
      · rw [if_neg c2] at h; exact absurd h c2
    · by_cases c1 : sgn tv T p 40
      · rw [ato_p c1] at h ⊢
        have hs1 := skp_ge (tv := tv) (p := p + 1) (T := T) c1.1
        unfold clsF at h ⊢
        by_cases c2 : (anyF tv T (atoF tv T e) st (skp tv T (p + 1))).1 = true ∧ sgn tv T (anyF tv T (atoF tv T e) st (skp tv T (p + 1))).2.2 41
        · rw [if_pos c2]
          exact lis_px (w := kOr) (v := nI 1015) hT (by decide) (Or.inr rfl) (lis_px (w := kAnd) (v := nI 1014) hT (by decide) (Or.inl rfl) ih ig) (gr_lis (by decide) ig) st _ hs1.2 (by omega) c2.1
        · rw [if_neg c2] at h; exact absurd (show false = true from h) (by decide)
      · rw [ato_b c1 c] at h ⊢
        exact bas_px hT st p hp hs h
theorem any_px {tv : Nat → Nat} {T : Nat} (hT : T ≤ 400) : Px T true (anyF tv T (atoF tv T 6)) := lis_px (w := kOr) (v := nI 1015) hT (by decide) (Or.inr rfl) (lis_px (w := kAnd) (v := nI 1014) hT (by decide) (Or.inl rfl) (ato_px hT 6) (gr_ato 6)) (gr_lis (by decide) (gr_ato 6))
