/-! THE REFERENCE: hearths put to cells -/
abbrev xcl (x : Int32) (c : Nat) : Int32 := x &&& (jshl (nI 1) (nI c) ^^^ (-1))
theorem has_xcl {x : Int32} {c e : Nat} (hc : c < 25) (he : e < 25) : hasP (xcl x c) e ↔ (hasP x e ∧ ¬ e = c) := by
  rw [hasP_bt (by omega), hasP_bt (by omega), b_and, bt_nt (by omega), bt_s1 c (by omega) e (by omega)]
  by_cases h : e = c
  · rw [decide_eq_true h]; simp [h]
  · rw [decide_eq_false h]; simp [h]
/-- one cell more -/
def moK (u : Nat → Nat → Nat) (rt : Nat → Int32) (x : Int32) (M : Nat → Nat) (c l k : Nat) : Nat := if hasP x c then forN (fun h y => if hasP (nI l) h ∧ hasP (rt h) c then max y (u h c + M (clr l h)) else y) (M l) k else M l
/-- the most, over the last r cells -/
def moU (u : Nat → Nat → Nat) (rt : Nat → Int32) (x : Int32) : Nat → Nat → Nat
  | 0 => fun _ => 0
  | r + 1 => fun l => moK u rt x (moU u rt x r) (24 - r) l 6
theorem moK_s {u : Nat → Nat → Nat} {rt : Nat → Int32} {x : Int32} {M : Nat → Nat} {c l k : Nat} (hx : hasP x c) : moK u rt x M c l (k + 1) = if hasP (nI l) k ∧ hasP (rt k) c then max (moK u rt x M c l k) (u k c + M (clr l k)) else moK u rt x M c l k := by
  unfold moK
  rw [if_pos hx, if_pos hx]
  rfl
theorem moK_0 {u : Nat → Nat → Nat} {rt : Nat → Int32} {x : Int32} {M : Nat → Nat} {c l : Nat} : moK u rt x M c l 0 = M l := by
  unfold moK
  split <;> rfl
theorem moK_n {u : Nat → Nat → Nat} {rt : Nat → Int32} {x : Int32} {M : Nat → Nat} {c l k : Nat} (hx : ¬ hasP x c) : moK u rt x M c l k = M l := if_neg hx
theorem moK_le {u : Nat → Nat → Nat} {rt : Nat → Int32} {x : Int32} {M : Nat → Nat} {c l b : Nat} : ∀ k, (moK u rt x M c l k ≤ b ↔ M l ≤ b ∧ (hasP x c → ∀ h, h < k → hasP (nI l) h → hasP (rt h) c → u h c + M (clr l h) ≤ b))
  | 0 => by
    rw [moK_0]
    exact ⟨fun h => ⟨h, fun _ h hh => absurd hh (Nat.not_lt_zero h)⟩, fun h => h.1⟩
  | k + 1 => by
    have ih := moK_le (u := u) (rt := rt) (x := x) (M := M) (c := c) (l := l) (b := b) k
    by_cases hx : hasP x c
    · rw [moK_s hx]
      by_cases e : hasP (nI l) k ∧ hasP (rt k) c
      · rw [if_pos e, Nat.max_le, ih]
        constructor
        · rintro ⟨⟨h1, h2⟩, h3⟩
          refine ⟨h1, fun _ h hh a1 a2 => ?_⟩
          by_cases q : h = k
          · subst q; exact h3
          · exact h2 hx h (by omega) a1 a2
        · rintro ⟨h1, h2⟩
          exact ⟨⟨h1, fun _ h hh => h2 hx h (by omega)⟩, h2 hx k (by omega) e.1 e.2⟩
      · rw [if_neg e, ih]
        constructor
        · rintro ⟨h1, h2⟩
          refine ⟨h1, fun _ h hh a1 a2 => ?_⟩
          by_cases q : h = k
          · subst q; exact absurd ⟨a1, a2⟩ e
          · exact h2 hx h (by omega) a1 a2
        · rintro ⟨h1, h2⟩
          exact ⟨h1, fun _ h hh => h2 hx h (by omega)⟩
    · rw [moK_n hx]
      exact ⟨fun h => ⟨h, fun q => absurd q hx⟩, fun h => h.1⟩
theorem moU_le {u : Nat → Nat → Nat} {rt : Nat → Int32} {x : Int32} {r l b : Nat} : moU u rt x (r + 1) l ≤ b ↔ moU u rt x r l ≤ b ∧ (hasP x (24 - r) → ∀ h, h < 6 → hasP (nI l) h → hasP (rt h) (24 - r) → u h (24 - r) + moU u rt x r (clr l h) ≤ b) := moK_le 6
theorem le_ext {a b : Nat} (h : ∀ K, a ≤ K ↔ b ≤ K) : a = b := Nat.le_antisymm ((h b).mpr (Nat.le_refl _)) ((h a).mp (Nat.le_refl _))
/-- only cells that are counted matter -/
theorem moU_x {u : Nat → Nat → Nat} {rt : Nat → Int32} {x y : Int32} : ∀ r, r ≤ 25 → (∀ c, 25 - r ≤ c → c < 25 → (hasP x c ↔ hasP y c)) → ∀ l, moU u rt x r l = moU u rt y r l
  | 0 => fun _ _ _ => rfl
  | r + 1 => fun hr h l => by
    have ih := moU_x (u := u) (rt := rt) (x := x) (y := y) r (by omega) (fun c h1 h2 => h c (by omega) h2)
    apply le_ext
    intro b
    rw [moU_le, moU_le, ih l, h (24 - r) (by omega) (by omega)]
    simp only [ih]
theorem clr_cm : ∀ l : Fin 64, ∀ g : Fin 6, ∀ h : Fin 6, clr (clr l.1 g.1) h.1 = clr (clr l.1 h.1) g.1 := by decide +kernel
theorem clr_lt {l h : Nat} (hl : l < 64) (hh : h < 6) : clr l h < 64 := (clr_le ⟨l, hl⟩ ⟨h, hh⟩).2.1
theorem clr_leN {m h : Nat} (hm : m < 64) (hh : h < 6) : clr m h ≤ m := (clr_le ⟨m, hm⟩ ⟨h, hh⟩).1
theorem clr_nI {m h : Nat} (hm : m < 64) (hh : h < 6) : nI m &&& (jshl (nI 1) (nI h) ^^^ (-1)) = nI (clr m h) := (clr_le ⟨m, hm⟩ ⟨h, hh⟩).2.2
theorem clr_hs {l h g : Nat} (hl : l < 64) (hh : h < 6) (hg : g < 6) : hasP (nI (clr l h)) g ↔ (hasP (nI l) g ∧ ¬ g = h) := clr_has ⟨l, hl⟩ ⟨h, hh⟩ ⟨g, hg⟩
/-- a hearth is put nowhere, or to one of its cells -/
theorem moU_E {u : Nat → Nat → Nat} {rt : Nat → Int32} {h : Nat} (hh : h < 6) : ∀ r, r ≤ 25 → ∀ l x b, l < 64 → hasP (nI l) h → (moU u rt x r l ≤ b ↔ moU u rt x r (clr l h) ≤ b ∧ ∀ c, 25 - r ≤ c → c < 25 → hasP x c → hasP (rt h) c → u h c + moU u rt (xcl x c) r (clr l h) ≤ b)
  | 0 => fun _ l x b _ _ => ⟨fun q => ⟨q, fun c h1 h2 => absurd h1 (by omega)⟩, fun q => q.1⟩
  | r + 1 => fun hr l x b hl hlh => by
    have ih := moU_E (u := u) (rt := rt) hh r (by omega)
    have hcl := clr_lt hl hh
    have hc0 : 24 - r < 25 := by omega
    have hx0 : ∀ l2, moU u rt (xcl x (24 - r)) r l2 = moU u rt x r l2 := fun l2 => moU_x r (by omega) (fun c h1 h2 => by rw [has_xcl hc0 h2]; exact ⟨fun q => q.1, fun q => ⟨q, by omega⟩⟩) l2
    constructor
    · intro q
      rw [moU_le, ih l x b hl hlh] at q
      obtain ⟨⟨a1, a2⟩, a3⟩ := q
      have hg : ∀ g, g < 6 → hasP (nI l) g → ¬ g = h → hasP x (24 - r) → hasP (rt g) (24 - r) → u g (24 - r) + moU u rt x r (clr (clr l h) g) ≤ b ∧ ∀ c, 25 - r ≤ c → c < 25 → hasP x c → hasP (rt h) c → u h c + (u g (24 - r) + moU u rt (xcl x c) r (clr (clr l h) g)) ≤ b := by
        intro g hg6 hgl hgh hxc hrt
        have z := a3 hxc g hg6 hgl hrt
        have z1 : moU u rt x r (clr l g) ≤ b - u g (24 - r) := by omega
        rw [ih (clr l g) x _ (clr_lt hl hg6) ((clr_hs hl hg6 hh).mpr ⟨hlh, fun e => hgh e.symm⟩), clr_cm ⟨l, hl⟩ ⟨g, hg6⟩ ⟨h, hh⟩] at z1
        dsimp only at z1
        refine ⟨by omega, fun c h1 h2 h3 h4 => ?_⟩
        have := z1.2 c h1 h2 h3 h4
        omega
      refine ⟨?_, fun c h1 h2 h3 h4 => ?_⟩
      · rw [moU_le]
        refine ⟨a1, fun hxc g hg6 hgl hrt => ?_⟩
        have z := (clr_hs hl hh hg6).mp hgl
        exact (hg g hg6 z.1 z.2 hxc hrt).1
      · by_cases e : c = 24 - r
        · subst e
          have z : moU u rt (xcl x (24 - r)) (r + 1) (clr l h) = moU u rt x r (clr l h) := by
            show moK u rt (xcl x (24 - r)) (moU u rt (xcl x (24 - r)) r) (24 - r) (clr l h) 6 = _
            rw [moK_n (fun q => ((has_xcl hc0 hc0).mp q).2 rfl), hx0]
          rw [z]
          exact a3 h3 h hh hlh h4
        · have z : moU u rt (xcl x c) (r + 1) (clr l h) ≤ b - u h c := by
            rw [moU_le]
            have y1 := a2 c (by omega) h2 h3 h4
            refine ⟨by omega, fun hxc g hg6 hgl hrt => ?_⟩
            have w1 := (clr_hs hl hh hg6).mp hgl
            have w2 := ((has_xcl h2 hc0).mp hxc).1
            have := (hg g hg6 w1.1 w1.2 w2 hrt).2 c (by omega) h2 h3 h4
            omega
          have y1 := a2 c (by omega) h2 h3 h4
          omega
    · rintro ⟨b1, b2⟩
      rw [moU_le] at b1
      rw [moU_le, ih l x b hl hlh]
      refine ⟨⟨b1.1, fun c h1 h2 h3 h4 => ?_⟩, fun hxc g hg6 hgl hrt => ?_⟩
      · have z := b2 c (by omega) h2 h3 h4
        have z1 : moU u rt (xcl x c) (r + 1) (clr l h) ≤ b - u h c := by omega
        rw [moU_le] at z1
        omega
      · by_cases e : g = h
        · subst e
          have z := b2 (24 - r) (by omega) hc0 hxc hrt
          have y : moU u rt (xcl x (24 - r)) (r + 1) (clr l g) = moU u rt x r (clr l g) := by
            show moK u rt (xcl x (24 - r)) (moU u rt (xcl x (24 - r)) r) (24 - r) (clr l g) 6 = _
            rw [moK_n (fun q => ((has_xcl hc0 hc0).mp q).2 rfl), hx0]
          rw [y] at z
          exact z
        · have hgl2 : hasP (nI (clr l h)) g := (clr_hs hl hh hg6).mpr ⟨hgl, e⟩
          have z := b1.2 hxc g hg6 hgl2 hrt
          have z1 : moU u rt x r (clr l g) ≤ b - u g (24 - r) := by
            rw [ih (clr l g) x _ (clr_lt hl hg6) ((clr_hs hl hg6 hh).mpr ⟨hlh, fun q => e q.symm⟩), clr_cm ⟨l, hl⟩ ⟨g, hg6⟩ ⟨h, hh⟩]
            dsimp only
            refine ⟨by omega, fun c h1 h2 h3 h4 => ?_⟩
            have w := b2 c (by omega) h2 h3 h4
            have w1 : moU u rt (xcl x c) (r + 1) (clr l h) ≤ b - u h c := by omega
            rw [moU_le] at w1
            have w2 := w1.2 ((has_xcl h2 hc0).mpr ⟨hxc, by omega⟩) g hg6 hgl2 hrt
            omega
          omega
theorem moU_b {u : Nat → Nat → Nat} {rt : Nat → Int32} {x : Int32} {m : Nat} (hu : ∀ h c, c < 25 → u h c ≤ m) : ∀ r, r ≤ 25 → ∀ l, moU u rt x r l ≤ r * m
  | 0 => fun _ _ => Nat.zero_le _
  | r + 1 => fun hr l => by
    have ih := moU_b (rt := rt) (x := x) hu r (by omega)
    rw [moU_le, Nat.succ_mul]
    refine ⟨by have := ih l; omega, fun _ h _ _ _ => ?_⟩
    have a1 := ih (clr l h)
    have a2 := hu h (24 - r) (by omega)
    omega
def DpW (w : Nat → Int32) (dp : Nat → Nat) : Prop := ∀ c, c < 25 → w (9 + 6 * c + 0) = nI (dp c) ∧ dp c ≤ 9
abbrev rtW (w : Nat → Int32) (h : Nat) : Int32 := w (159 + 4 * h + 3)
abbrev moD (w : Nat → Int32) (dp : Nat → Nat) (x : Int32) (r l : Nat) : Nat := moU (fun _ c => dp c) (rtW w) x r l
theorem shl_6 : ∀ c : Fin 26, jshl (nI c.1) (nI 6) = nI (64 * c.1) := by decide +kernel
theorem dp_b {w : Nat → Int32} {dp : Nat → Nat} (h : DpW w dp) (r : Nat) (hr : r ≤ 25) (x : Int32) (l : Nat) : moD w dp x r l ≤ 225 := Nat.le_trans (moU_b (m := 9) (fun _ c hc => (h c hc).2) r hr l) (by omega)
theorem mk_b {w : Nat → Int32} {dp : Nat → Nat} (h : DpW w dp) (r : Nat) (hr : r < 25) (x : Int32) (l : Nat) : ∀ k, moK (fun _ c => dp c) (rtW w) x (moD w dp x r) (24 - r) l k ≤ 240 := fun k => by
  rw [moK_le]
  refine ⟨Nat.le_trans (dp_b h r (by omega) x l) (by omega), fun _ g _ _ _ => ?_⟩
  have a1 := dp_b h r (by omega) x (clr l g)
  have a2 := (h (24 - r) (by omega)).2
  omega
/-- rows of the last r cells stand -/
def MoR (w : Nat → Int32) (dp : Nat → Nat) (x : Int32) (A : Nat) (V : Nat → Int32) (i : Nat) : Prop := ∀ r, r ≤ i → ∀ l, l ≤ A → V (64 * (25 - r) + l) = nI (moD w dp x r l)
theorem MoR_0 {w : Nat → Int32} {dp : Nat → Nat} {x : Int32} {A : Nat} {V : Nat → Int32} (h : ∀ l, l < A + 1 → V (64 * 25 + l) = nI 0) : MoR w dp x A V 0 := fun r hr l hl => by
  rw [show r = 0 by omega]; exact h l (by omega)
theorem MoR_s {w : Nat → Int32} {dp : Nat → Nat} {x : Int32} {A i : Nat} {V : Nat → Int32} (hi : i < 25) (h : MoR w dp x A V i) (h2 : ∀ l, l < A + 1 → V (64 * (24 - i) + l) = nI (moD w dp x (i + 1) l)) : MoR w dp x A V (i + 1) := fun r hr l hl => by
  by_cases e : r = i + 1
  · rw [e, show 25 - (i + 1) = 24 - i by omega]; exact h2 l (by omega)
  · exact h r (by omega) l hl
theorem MoR_u {w : Nat → Int32} {dp : Nat → Nat} {x : Int32} {A i j : Nat} {V : Nat → Int32} {v : Int32} (hi : i < 25) (hA : A < 64) (hj : j < 64) (h : MoR w dp x A V i) : MoR w dp x A (up1 V (64 * (24 - i) + j) v) i := fun r hr l hl => by
  rw [up1_ne (by omega)]; exact h r hr l hl
theorem row_u {w : Nat → Int32} {dp : Nat → Nat} {x : Int32} {i j : Nat} {V : Nat → Int32} (h : ∀ l, l < j → V (64 * (24 - i) + l) = nI (moD w dp x (i + 1) l)) : ∀ l, l < j + 1 → up1 V (64 * (24 - i) + j) (nI (moD w dp x (i + 1) j)) (64 * (24 - i) + l) = nI (moD w dp x (i + 1) l) := fun l hl => by
  by_cases e : l = j
  · rw [e, up1_hit]
  · rw [up1_ne (by omega)]; exact h l (by omega)
theorem z_up {V : Nat → Int32} {i : Nat} (h : ∀ l, l < i → V (64 * 25 + l) = nI 0) : ∀ l, l < i + 1 → up1 V (64 * 25 + i) (nI 0) (64 * 25 + l) = nI 0 := fun l hl => by
  by_cases e : l = i
  · rw [e, up1_hit]
  · rw [up1_ne (by omega)]; exact h l (by omega)

theorem m_mostAt {d : Nat} {K : Nat → Nat × Nat} {I : Nat → Nat → Int32} {L : Nat → Nat → Int64} {R : Nat → Nat → Option Nat} {n s : Nat} {Q : Lo → Lm → Prop} {c l : Nat} (hc : c < 26) (kk : Q (.inl (some (.int (nI (64 * c + l))))) (K, I, L, R, n, s)) : Ok (d + 1) 332 [.int (nI c), .int (nI l)] (K, I, L, R, n, s) Q := by
  refine Ok.enter (F := F_332) (ls := [.int (nI c), .int (nI l)]) rfl rfl ?_
  refine wp_iload0 (pc' := 1) rfl rfl ?_
  refine wp_bipush (v := nI 6) (pc' := 3) rfl rfl rfl ?_
  refine wp_ishl (pc' := 4) rfl rfl ?_
  rw [shl_6 ⟨c, hc⟩]
  refine wp_iload1 (pc' := 5) rfl rfl ?_
  first | refine wp_iaddN (pc' := 6) rfl (by with_reducible rfl) (by with_reducible rfl) rfl ?_ | refine wp_iadd (pc' := 6) rfl rfl ?_
  refine wp_iret rfl rfl rfl ?_
  exact kk
theorem m_mostOf {d : Nat} {K : Nat → Nat × Nat} {I : Nat → Nat → Int32} {L : Nat → Nat → Int64} {R : Nat → Nat → Option Nat} {n s : Nat} {Q : Lo → Lm → Prop} {A : Nat} {x : Int32} {dp : Nat → Nat} (hT : TK K R n) (hA : A < 64) (hdp : DpW (I 319) dp) (kk : ∀ V, Q (.inl (some (.int (nI (moD (I 319) dp x 25 A))))) (K, upr I 333 V, L, R, n, s)) : Ok (d + 3) 331 [.ref 318, .int (nI A), .int x] (K, I, L, R, n, s) Q := by
  obtain ⟨-, -, hn⟩ := id hT
  refine Ok.enter (F := F_331) (ls := [.ref 318, .int (nI A), .int x, lDead, lDead, lDead, lDead]) rfl rfl ?_
  refine wp_iconst (v := nI 0) (pc' := 1) rfl rfl rfl ?_
  refine wp_istore3 (pc' := 2) rfl (by first | rfl | assumption) rfl ?_
  have lp2 : ∀ r (i : Nat) (V : Nat → Int32) (v4 : Value) (v5 : Value) (v6 : Value), i + r = (A + 1) → (∀ l, l < i → V (64 * 25 + l) = nI 0) → isL v4 = false → isL v5 = false → isL v6 = false → WP (d + 2) F_331 2 [.ref 318, .int (nI A), .int x, .int (nI i), v4, v5, v6] [] (K, upr I 333 V, L, R, n, s) Q := by
    intro r; induction r with
    | zero =>
      intro i V v4 v5 v6 hi hv0 hv1 hv2 hv3
      have hi2 : i = (A + 1) := by omega
      subst hi2
      refine wp_iload3 (pc' := 3) rfl rfl ?_
      refine wp_iload1 (pc' := 4) rfl rfl ?_
      refine wp_icmpgtT rfl (nI_lt (by omega) (by omega)) ?_
      refine wp_bipush (v := nI 24) (pc' := 27) rfl rfl rfl ?_
      refine wp_istore3 (pc' := 28) rfl (by first | rfl | assumption) rfl ?_
      have lp28 : ∀ rb (i : Nat) (V : Nat → Int32) (v4 : Value) (v5 : Value) (v6 : Value), i + rb = 25 → MoR (I 319) dp x A V i → isL v4 = false → isL v5 = false → isL v6 = false → WP (d + 2) F_331 28 [.ref 318, .int (nI A), .int x, .int (nI 24 - nI i), v4, v5, v6] [] (K, upr I 333 V, L, R, n, s) Q := by
        intro rb; induction rb with
        | zero =>
          intro i V v4 v5 v6 hib hvb0 hvb1 hvb2 hvb3
          have hi2b : i = 25 := by omega
          subst hi2b
          refine wp_iload3 (pc' := 29) rfl rfl ?_
          refine wp_ifltT rfl (by decide) ?_
          refine wp_aload0 (pc' := 164) rfl rfl ?_
          refine wp_getRF (pc' := 167) rfl rfl (by first | exact TK.k1 hT rfl | exact TK.kk hT rfl | exact TK.r hT rfl | assumption) (by first | exact TK.k1 hT rfl | exact TK.kk hT rfl | exact TK.r hT rfl | assumption) rfl ?_
          refine wp_iconst (v := nI 0) (pc' := 168) rfl rfl rfl ?_
          refine wp_iload1 (pc' := 169) rfl rfl ?_
          refine wp_callS2 (pc' := 172) rfl rfl rfl rfl rfl rfl ?_
          refine m_mostAt (by omega) ?_
          refine Cont.v ?_
          refine wp_iald _ (pc' := 173) rfl (by first | exact TK.k1 hT rfl | exact TK.kk hT rfl | exact TK.r hT rfl | assumption) (by with_reducible rfl) (by omega) (by first | decide | assumption | omega) rfl ?_
          rw [upr_same, hvb0 25 (Nat.le_refl _) A (Nat.le_refl _)]
          refine wp_iret rfl rfl rfl ?_
          exact kk V
        | succ rb ihb =>
          intro i V v4 v5 v6 hib hvb0 hvb1 hvb2 hvb3
          have hltb : i < 25 := by omega
          rw [nI_sub (show i ≤ 24 by omega)]
          have hD := dec24 ⟨i, by omega⟩
          dsimp only at hD
          refine wp_iload3 (pc' := 29) rfl rfl ?_
          refine wp_ifltF (pc' := 32) rfl (nI_pos (by omega)) rfl ?_
          refine wp_iconst (v := nI 0) (pc' := 33) rfl rfl rfl ?_
          refine wp_istore4 (pc' := 35) rfl (by first | rfl | assumption) rfl ?_
          have lp35 : ∀ rc (j : Nat) (V : Nat → Int32) (v5 : Value) (v6 : Value), j + rc = (A + 1) → MoR (I 319) dp x A V i → (∀ l, l < j → V (64 * (24 - i) + l) = nI (moD (I 319) dp x (i + 1) l)) → isL v5 = false → isL v6 = false → WP (d + 2) F_331 35 [.ref 318, .int (nI A), .int x, .int (nI (24 - i)), .int (nI j), v5, v6] [] (K, upr I 333 V, L, R, n, s) Q := by
            intro rc; induction rc with
            | zero =>
              intro j V v5 v6 hic hvc0 hvc1 hvc2 hvc3
              have hi2c : j = (A + 1) := by omega
              subst hi2c
              refine wp_iload4 (pc' := 37) rfl rfl ?_
              refine wp_iload1 (pc' := 38) rfl rfl ?_
              refine wp_icmpgtT rfl (nI_lt (by omega) (by omega)) ?_
              first | refine wp_iinc3 (w := (-1)) (pc' := 160) rfl rfl rfl (by with_reducible exact nI_sub1 (by omega)) rfl ?_ | refine wp_iinc3 (w := (-1)) (pc' := 160) rfl rfl rfl rfl rfl ?_
              refine wp_goto rfl ?_
              exact WP.cg (ihb (i + 1) V _ _ _ (by omega) (MoR_s (by omega) hvc0 hvc1) (by first | rfl | assumption) (by first | rfl | assumption) (by first | rfl | assumption)) (lC1 (lI1 (by first | with_reducible rfl | with_reducible exact hD) (lI1 (by first | with_reducible rfl | with_reducible exact hD) (lI1 (by first | with_reducible rfl | with_reducible exact hD) (lC1 (lC1 (lC1 rfl))))))) rfl (by rfl)
            | succ rc ihc =>
              intro j V v5 v6 hic hvc0 hvc1 hvc2 hvc3
              have hltc : j < (A + 1) := by omega
              refine wp_iload4 (pc' := 37) rfl rfl ?_
              refine wp_iload1 (pc' := 38) rfl rfl ?_
              refine wp_icmpgtF (pc' := 41) rfl (nI_nlt (by omega) (by omega)) rfl ?_
              refine wp_aload0 (pc' := 42) rfl rfl ?_
              refine wp_getRF (pc' := 45) rfl rfl (by first | exact TK.k1 hT rfl | exact TK.kk hT rfl | exact TK.r hT rfl | assumption) (by first | exact TK.k1 hT rfl | exact TK.kk hT rfl | exact TK.r hT rfl | assumption) rfl ?_
              refine wp_iload3 (pc' := 46) rfl rfl ?_
              refine wp_iconst (v := nI 1) (pc' := 47) rfl rfl rfl ?_
              first | refine wp_iaddN (pc' := 48) rfl (by with_reducible rfl) (by with_reducible rfl) rfl ?_ | refine wp_iadd (pc' := 48) rfl rfl ?_
              refine wp_iload4 (pc' := 50) rfl rfl ?_
              refine wp_callS2 (pc' := 53) rfl rfl rfl rfl rfl rfl ?_
              refine m_mostAt (by omega) ?_
              refine Cont.v ?_
              refine wp_iald _ (pc' := 54) rfl (by first | exact TK.k1 hT rfl | exact TK.kk hT rfl | exact TK.r hT rfl | assumption) (by with_reducible rfl) (by omega) (by first | decide | assumption | omega) rfl ?_
              rw [upr_same, show 64 * (24 - i + 1) + j = 64 * (25 - i) + j by omega, hvc0 i (Nat.le_refl _) j (by omega)]
              refine wp_istore5 (pc' := 56) rfl (by first | rfl | assumption) rfl ?_
              refine wp_iconst (v := nI 0) (pc' := 57) rfl rfl rfl ?_
              refine wp_istore6 (pc' := 59) rfl (by first | rfl | assumption) rfl ?_
              have lp59 : ∀ rd (k : Nat), k + rd = 6 → WP (d + 2) F_331 59 [.ref 318, .int (nI A), .int x, .int (nI (24 - i)), .int (nI j), .int (nI (moK (fun _ c => dp c) (rtW (I 319)) x (moD (I 319) dp x i) (24 - i) j k)), .int (nI k)] [] (K, upr I 333 V, L, R, n, s) Q := by
                intro rd; induction rd with
                | zero =>
                  intro k hid 
                  have hi2d : k = 6 := by omega
                  subst hi2d
                  refine wp_iload6 (pc' := 61) rfl rfl ?_
                  refine wp_bipush (v := nI 6) (pc' := 63) rfl rfl rfl ?_
                  refine wp_icmpgeT rfl (nI_nlt (by omega) (by omega)) ?_
                  refine wp_aload0 (pc' := 139) rfl rfl ?_
                  refine wp_getRF (pc' := 142) rfl rfl (by first | exact TK.k1 hT rfl | exact TK.kk hT rfl | exact TK.r hT rfl | assumption) (by first | exact TK.k1 hT rfl | exact TK.kk hT rfl | exact TK.r hT rfl | assumption) rfl ?_
                  refine wp_iload3 (pc' := 143) rfl rfl ?_
                  refine wp_iload4 (pc' := 145) rfl rfl ?_
                  refine wp_callS2 (pc' := 148) rfl rfl rfl rfl rfl rfl ?_
                  refine m_mostAt (by omega) ?_
                  refine Cont.v ?_
                  refine wp_iload5 (pc' := 150) rfl rfl ?_
                  refine wp_iast _ (pc' := 151) rfl (by first | exact TK.k1 hT rfl | exact TK.kk hT rfl | exact TK.r hT rfl | assumption) (by omega) (by with_reducible rfl) (by omega) (by first | decide | assumption | omega) rfl ?_
                  first | refine wp_iinc4 (w := nI 1) (pc' := 154) rfl rfl rfl (by with_reducible exact nI_add _ _) rfl ?_ | refine wp_iinc4 (w := nI 1) (pc' := 154) rfl rfl rfl rfl rfl ?_
                  refine wp_goto rfl ?_
                  exact WP.cg (ihc (j + 1) _ _ _ (by omega) (MoR_u (j := j) (v := nI (moD (I 319) dp x (i + 1) j)) (by omega) hA (by omega) hvc0) (row_u hvc1) (by first | rfl | assumption) (by first | rfl | assumption)) (lC1 (lI1 (by rfl) (lI1 (by rfl) (lI1 (by rfl) (lI1 (by rfl) (lC1 (lC1 rfl))))))) rfl (by rw [up2_upr]; first | with_reducible rfl | (rw [show moD (I 319) dp x (i + 1) j = moD (I 319) dp x i j from moK_n h71, moK_n h71]; done) | rfl)
                | succ rd ihd =>
                  intro k hid 
                  have hltd : k < 6 := by omega
                  refine wp_iload6 (pc' := 61) rfl rfl ?_
                  refine wp_bipush (v := nI 6) (pc' := 63) rfl rfl rfl ?_
                  refine wp_icmpgeF (pc' := 66) rfl (nI_lt (by omega) (by omega)) rfl ?_
                  refine wp_iload2 (pc' := 67) rfl rfl ?_
                  refine wp_iload3 (pc' := 68) rfl rfl ?_
                  refine wp_callS2 (pc' := 71) rfl rfl rfl rfl rfl rfl ?_
                  refine m_has ?_
                  refine Cont.v ?_
                  first | refine wp_ifeqB (pc' := 74) rfl rfl ?_ ?_ | refine wp_ifeq (pc' := 74) rfl rfl ?_ ?_
                  · intro h71
                    refine wp_aload0 (pc' := 139) rfl rfl ?_
                    refine wp_getRF (pc' := 142) rfl rfl (by first | exact TK.k1 hT rfl | exact TK.kk hT rfl | exact TK.r hT rfl | assumption) (by first | exact TK.k1 hT rfl | exact TK.kk hT rfl | exact TK.r hT rfl | assumption) rfl ?_
                    refine wp_iload3 (pc' := 143) rfl rfl ?_
                    refine wp_iload4 (pc' := 145) rfl rfl ?_
                    refine wp_callS2 (pc' := 148) rfl rfl rfl rfl rfl rfl ?_
                    refine m_mostAt (by omega) ?_
                    refine Cont.v ?_
                    refine wp_iload5 (pc' := 150) rfl rfl ?_
                    refine wp_iast _ (pc' := 151) rfl (by first | exact TK.k1 hT rfl | exact TK.kk hT rfl | exact TK.r hT rfl | assumption) (by omega) (by with_reducible rfl) (by omega) (by first | decide | assumption | omega) rfl ?_
                    first | refine wp_iinc4 (w := nI 1) (pc' := 154) rfl rfl rfl (by with_reducible exact nI_add _ _) rfl ?_ | refine wp_iinc4 (w := nI 1) (pc' := 154) rfl rfl rfl rfl rfl ?_
                    refine wp_goto rfl ?_
                    exact WP.cg (ihc (j + 1) _ _ _ (by omega) (MoR_u (j := j) (v := nI (moD (I 319) dp x (i + 1) j)) (by omega) hA (by omega) hvc0) (row_u hvc1) (by first | rfl | assumption) (by first | rfl | assumption)) (lC1 (lI1 (by rfl) (lI1 (by rfl) (lI1 (by rfl) (lI1 (by rfl) (lC1 (lC1 rfl))))))) rfl (by rw [up2_upr]; first | with_reducible rfl | (rw [show moD (I 319) dp x (i + 1) j = moD (I 319) dp x i j from moK_n h71, moK_n h71]; done) | rfl)
                  · intro h71
                    refine wp_iload4 (pc' := 76) rfl rfl ?_
                    refine wp_iload6 (pc' := 78) rfl rfl ?_
                    refine wp_callS2 (pc' := 81) rfl rfl rfl rfl rfl rfl ?_
                    refine m_has ?_
                    refine Cont.v ?_
                    first | refine wp_ifeqB (pc' := 84) rfl rfl ?_ ?_ | refine wp_ifeq (pc' := 84) rfl rfl ?_ ?_
                    · intro h81
                      first | refine wp_iinc6 (w := nI 1) (pc' := 135) rfl rfl rfl (by with_reducible exact nI_add _ _) rfl ?_ | refine wp_iinc6 (w := nI 1) (pc' := 135) rfl rfl rfl rfl rfl ?_
                      refine wp_goto rfl ?_
                      exact WP.cg (ihd (k + 1) (by omega)) (lC1 (lI1 (by first | with_reducible rfl | (rw [moK_s h71, if_pos (And.intro h81 h95)]; done) | (rw [moK_s h71, if_neg (fun q => h95 q.2)]; done) | (rw [moK_s h71, if_neg (fun q => h81 q.1)]; done)) (lI1 (by first | with_reducible rfl | (rw [moK_s h71, if_pos (And.intro h81 h95)]; done) | (rw [moK_s h71, if_neg (fun q => h95 q.2)]; done) | (rw [moK_s h71, if_neg (fun q => h81 q.1)]; done)) (lI1 (by first | with_reducible rfl | (rw [moK_s h71, if_pos (And.intro h81 h95)]; done) | (rw [moK_s h71, if_neg (fun q => h95 q.2)]; done) | (rw [moK_s h71, if_neg (fun q => h81 q.1)]; done)) (lI1 (by first | with_reducible rfl | (rw [moK_s h71, if_pos (And.intro h81 h95)]; done) | (rw [moK_s h71, if_neg (fun q => h95 q.2)]; done) | (rw [moK_s h71, if_neg (fun q => h81 q.1)]; done)) (lI1 (by first | with_reducible rfl | (rw [moK_s h71, if_pos (And.intro h81 h95)]; done) | (rw [moK_s h71, if_neg (fun q => h95 q.2)]; done) | (rw [moK_s h71, if_neg (fun q => h81 q.1)]; done)) (lI1 (by first | with_reducible rfl | (rw [moK_s h71, if_pos (And.intro h81 h95)]; done) | (rw [moK_s h71, if_neg (fun q => h95 q.2)]; done) | (rw [moK_s h71, if_neg (fun q => h81 q.1)]; done)) rfl))))))) rfl (by rfl)
                    · intro h81
                      refine wp_aload0 (pc' := 85) rfl rfl ?_
                      refine wp_iload6 (pc' := 87) rfl rfl ?_
                      refine wp_iconst (v := nI 3) (pc' := 88) rfl rfl rfl ?_
                      refine wp_callV3 (pc' := 91) rfl rfl rfl rfl rfl (by first | exact TK.k1 hT rfl | exact TK.kk hT rfl | exact TK.r hT rfl | assumption) rfl rfl ?_
                      refine m_ofH hT (by omega) (by decide) ?_
                      refine Cont.v ?_
                      refine wp_iload3 (pc' := 92) rfl rfl ?_
                      refine wp_callS2 (pc' := 95) rfl rfl rfl rfl rfl rfl ?_
                      refine m_has ?_
                      rw [upr_ne (show (319 : Nat) ≠ 333 by decide)]
                      refine Cont.v ?_
                      first | refine wp_ifeqB (pc' := 98) rfl rfl ?_ ?_ | refine wp_ifeq (pc' := 98) rfl rfl ?_ ?_
                      · intro h95
                        first | refine wp_iinc6 (w := nI 1) (pc' := 135) rfl rfl rfl (by with_reducible exact nI_add _ _) rfl ?_ | refine wp_iinc6 (w := nI 1) (pc' := 135) rfl rfl rfl rfl rfl ?_
                        refine wp_goto rfl ?_
                        exact WP.cg (ihd (k + 1) (by omega)) (lC1 (lI1 (by first | with_reducible rfl | (rw [moK_s h71, if_pos (And.intro h81 h95)]; done) | (rw [moK_s h71, if_neg (fun q => h95 q.2)]; done) | (rw [moK_s h71, if_neg (fun q => h81 q.1)]; done)) (lI1 (by first | with_reducible rfl | (rw [moK_s h71, if_pos (And.intro h81 h95)]; done) | (rw [moK_s h71, if_neg (fun q => h95 q.2)]; done) | (rw [moK_s h71, if_neg (fun q => h81 q.1)]; done)) (lI1 (by first | with_reducible rfl | (rw [moK_s h71, if_pos (And.intro h81 h95)]; done) | (rw [moK_s h71, if_neg (fun q => h95 q.2)]; done) | (rw [moK_s h71, if_neg (fun q => h81 q.1)]; done)) (lI1 (by first | with_reducible rfl | (rw [moK_s h71, if_pos (And.intro h81 h95)]; done) | (rw [moK_s h71, if_neg (fun q => h95 q.2)]; done) | (rw [moK_s h71, if_neg (fun q => h81 q.1)]; done)) (lI1 (by first | with_reducible rfl | (rw [moK_s h71, if_pos (And.intro h81 h95)]; done) | (rw [moK_s h71, if_neg (fun q => h95 q.2)]; done) | (rw [moK_s h71, if_neg (fun q => h81 q.1)]; done)) (lI1 (by first | with_reducible rfl | (rw [moK_s h71, if_pos (And.intro h81 h95)]; done) | (rw [moK_s h71, if_neg (fun q => h95 q.2)]; done) | (rw [moK_s h71, if_neg (fun q => h81 q.1)]; done)) rfl))))))) rfl (by rfl)
                      · intro h95
                        have hcl := clr_leN (m := j) (h := k) (by omega) (by omega)
                        have hbk := mk_b hdp i (by omega) x j k
                        have hbm := dp_b hdp i (by omega) x (clr j k)
                        have hbd := (hdp (24 - i) (by omega)).2
                        refine wp_iload5 (pc' := 100) rfl rfl ?_
                        refine wp_aload0 (pc' := 101) rfl rfl ?_
                        refine wp_iload3 (pc' := 102) rfl rfl ?_
                        refine wp_iconst (v := nI 0) (pc' := 103) rfl rfl rfl ?_
                        refine wp_callV3 (pc' := 106) rfl rfl rfl rfl rfl (by first | exact TK.k1 hT rfl | exact TK.kk hT rfl | exact TK.r hT rfl | assumption) rfl rfl ?_
                        refine m_of hT (by omega) (by decide) ?_
                        rw [upr_ne (show (319 : Nat) ≠ 333 by decide), (hdp _ (by omega)).1]
                        refine Cont.v ?_
                        refine wp_aload0 (pc' := 107) rfl rfl ?_
                        refine wp_getRF (pc' := 110) rfl rfl (by first | exact TK.k1 hT rfl | exact TK.kk hT rfl | exact TK.r hT rfl | assumption) (by first | exact TK.k1 hT rfl | exact TK.kk hT rfl | exact TK.r hT rfl | assumption) rfl ?_
                        refine wp_iload3 (pc' := 111) rfl rfl ?_
                        refine wp_iconst (v := nI 1) (pc' := 112) rfl rfl rfl ?_
                        first | refine wp_iaddN (pc' := 113) rfl (by with_reducible rfl) (by with_reducible rfl) rfl ?_ | refine wp_iadd (pc' := 113) rfl rfl ?_
                        refine wp_iload4 (pc' := 115) rfl rfl ?_
                        refine wp_iconst (v := nI 1) (pc' := 116) rfl rfl rfl ?_
                        refine wp_iload6 (pc' := 118) rfl rfl ?_
                        refine wp_ishl (pc' := 119) rfl rfl ?_
                        refine wp_iconst (v := (-1)) (pc' := 120) rfl rfl rfl ?_
                        refine wp_ixor (pc' := 121) rfl rfl ?_
                        refine wp_iand (pc' := 122) rfl rfl ?_
                        rw [clr_nI (by omega) (by omega)]
                        refine wp_callS2 (pc' := 125) rfl rfl rfl rfl rfl rfl ?_
                        refine m_mostAt (by omega) ?_
                        refine Cont.v ?_
                        refine wp_iald _ (pc' := 126) rfl (by first | exact TK.k1 hT rfl | exact TK.kk hT rfl | exact TK.r hT rfl | assumption) (by with_reducible rfl) (by omega) (by first | decide | assumption | omega) rfl ?_
                        rw [upr_same, show 64 * (24 - i + 1) + clr j k = 64 * (25 - i) + clr j k by omega, hvc0 i (Nat.le_refl _) (clr j k) (by omega)]
                        first | refine wp_iaddN (pc' := 127) rfl (by with_reducible rfl) (by with_reducible rfl) rfl ?_ | refine wp_iadd (pc' := 127) rfl rfl ?_
                        refine wp_max (pc' := 130) rfl rfl rfl rfl ?_
                        rw [nI_max (by omega) (by omega)]
                        refine wp_istore5 (pc' := 132) rfl (by first | rfl | assumption) rfl ?_
                        first | refine wp_iinc6 (w := nI 1) (pc' := 135) rfl rfl rfl (by with_reducible exact nI_add _ _) rfl ?_ | refine wp_iinc6 (w := nI 1) (pc' := 135) rfl rfl rfl rfl rfl ?_
                        refine wp_goto rfl ?_
                        exact WP.cg (ihd (k + 1) (by omega)) (lC1 (lI1 (by first | with_reducible rfl | (rw [moK_s h71, if_pos (And.intro h81 h95)]; done) | (rw [moK_s h71, if_neg (fun q => h95 q.2)]; done) | (rw [moK_s h71, if_neg (fun q => h81 q.1)]; done)) (lI1 (by first | with_reducible rfl | (rw [moK_s h71, if_pos (And.intro h81 h95)]; done) | (rw [moK_s h71, if_neg (fun q => h95 q.2)]; done) | (rw [moK_s h71, if_neg (fun q => h81 q.1)]; done)) (lI1 (by first | with_reducible rfl | (rw [moK_s h71, if_pos (And.intro h81 h95)]; done) | (rw [moK_s h71, if_neg (fun q => h95 q.2)]; done) | (rw [moK_s h71, if_neg (fun q => h81 q.1)]; done)) (lI1 (by first | with_reducible rfl | (rw [moK_s h71, if_pos (And.intro h81 h95)]; done) | (rw [moK_s h71, if_neg (fun q => h95 q.2)]; done) | (rw [moK_s h71, if_neg (fun q => h81 q.1)]; done)) (lI1 (by first | with_reducible rfl | (rw [moK_s h71, if_pos (And.intro h81 h95)]; done) | (rw [moK_s h71, if_neg (fun q => h95 q.2)]; done) | (rw [moK_s h71, if_neg (fun q => h81 q.1)]; done)) (lI1 (by first | with_reducible rfl | (rw [moK_s h71, if_pos (And.intro h81 h95)]; done) | (rw [moK_s h71, if_neg (fun q => h95 q.2)]; done) | (rw [moK_s h71, if_neg (fun q => h81 q.1)]; done)) rfl))))))) rfl (by rfl)
              exact WP.cg (lp59 (6 - (0)) (0) (by omega)) (lC1 (lI1 (by first | with_reducible rfl | (rw [moK_0]; done)) (lI1 (by first | with_reducible rfl | (rw [moK_0]; done)) (lI1 (by first | with_reducible rfl | (rw [moK_0]; done)) (lI1 (by first | with_reducible rfl | (rw [moK_0]; done)) (lI1 (by first | with_reducible rfl | (rw [moK_0]; done)) (lI1 (by first | with_reducible rfl | (rw [moK_0]; done)) rfl))))))) rfl (by rfl)
          exact WP.cg (lp35 ((A + 1) - (0)) (0) V _ _ (by omega) hvb0 (fun l hl => absurd hl (Nat.not_lt_zero l)) (by first | rfl | assumption) (by first | rfl | assumption)) (lC1 (lI1 (by rfl) (lI1 (by rfl) (lI1 (by rfl) (lI1 (by rfl) (lC1 (lC1 rfl))))))) rfl (by rfl)
      exact WP.cg (lp28 (25 - (0)) (0) V _ _ _ (by omega) (MoR_0 hv0) (by first | rfl | assumption) (by first | rfl | assumption) (by first | rfl | assumption)) (lC1 (lI1 (by first | with_reducible rfl | decide | rfl) (lI1 (by first | with_reducible rfl | decide | rfl) (lI1 (by first | with_reducible rfl | decide | rfl) (lC1 (lC1 (lC1 rfl))))))) rfl (by rfl)
    | succ r ih =>
      intro i V v4 v5 v6 hi hv0 hv1 hv2 hv3
      have hlt : i < (A + 1) := by omega
      refine wp_iload3 (pc' := 3) rfl rfl ?_
      refine wp_iload1 (pc' := 4) rfl rfl ?_
      refine wp_icmpgtF (pc' := 7) rfl (nI_nlt (by omega) (by omega)) rfl ?_
      refine wp_aload0 (pc' := 8) rfl rfl ?_
      refine wp_getRF (pc' := 11) rfl rfl (by first | exact TK.k1 hT rfl | exact TK.kk hT rfl | exact TK.r hT rfl | assumption) (by first | exact TK.k1 hT rfl | exact TK.kk hT rfl | exact TK.r hT rfl | assumption) rfl ?_
      refine wp_bipush (v := nI 25) (pc' := 13) rfl rfl rfl ?_
      refine wp_iload3 (pc' := 14) rfl rfl ?_
      refine wp_callS2 (pc' := 17) rfl rfl rfl rfl rfl rfl ?_
      refine m_mostAt (by omega) ?_
      refine Cont.v ?_
      refine wp_iconst (v := nI 0) (pc' := 18) rfl rfl rfl ?_
      refine wp_iast _ (pc' := 19) rfl (by first | exact TK.k1 hT rfl | exact TK.kk hT rfl | exact TK.r hT rfl | assumption) (by omega) (by with_reducible rfl) (by omega) (by first | decide | assumption | omega) rfl ?_
      first | refine wp_iinc3 (w := nI 1) (pc' := 22) rfl rfl rfl (by with_reducible exact nI_add _ _) rfl ?_ | refine wp_iinc3 (w := nI 1) (pc' := 22) rfl rfl rfl rfl rfl ?_
      refine wp_goto rfl ?_
      exact WP.cg (ih (i + 1) _ _ _ _ (by omega) (z_up hv0) (by first | rfl | assumption) (by first | rfl | assumption) (by first | rfl | assumption)) (lC1 (lI1 (by rfl) (lI1 (by rfl) (lI1 (by rfl) (lC1 (lC1 (lC1 rfl))))))) rfl (by rw [up2_upr])
  exact WP.cg (lp2 ((A + 1) - (0)) (0) (I 333) _ _ _ (by omega) (fun l hl => absurd hl (Nat.not_lt_zero l)) (by first | rfl | assumption) (by first | rfl | assumption) (by first | rfl | assumption)) (lC1 (lI1 (by rfl) (lI1 (by rfl) (lI1 (by rfl) (lC1 (lC1 (lC1 rfl))))))) rfl (by rw [upr_id])
/-- where a hearth is put -/
abbrev gP (w : Nat → Int32) (dp : Nat → Nat) (h l : Nat) (x : Int32) (c : Nat) : Prop := hasP (x &&& rtW w h) c ∧ dp c + moD w dp (xcl x c) 25 (clr l h) = moD w dp x 25 l
abbrev gCl (w : Nat → Int32) (dp : Nat → Nat) (h l : Nat) (x : Int32) : Nat := fK (fun c => gP w dp h l x c) 25 0
def gSt (w : Nat → Int32) (dp : Nat → Nat) (h : Nat) (p : Nat × Int32 × Int32) : Nat × Int32 × Int32 :=
  if moD w dp p.2.1 25 (clr p.1 h) = moD w dp p.2.1 25 p.1 then (clr p.1 h, p.2.1, -1) else (clr p.1 h, xcl p.2.1 (gCl w dp h p.1 p.2.1), nI (gCl w dp h p.1 p.2.1))
def gF (w : Nat → Int32) (dp : Nat → Nat) (H : Nat) (x : Int32) (i : Nat) : Nat × Int32 × Int32 := forN (fun h p => gSt w dp h p) (2 ^ H - 1, x, -1) i
theorem gF_s {w : Nat → Int32} {dp : Nat → Nat} {H i : Nat} {x : Int32} : gF w dp H x (i + 1) = gSt w dp i (gF w dp H x i) := rfl
theorem gS_1 {w : Nat → Int32} {dp : Nat → Nat} {h : Nat} {p : Nat × Int32 × Int32} : (gSt w dp h p).1 = clr p.1 h := by unfold gSt; split <;> rfl
theorem gF_l {w : Nat → Int32} {dp : Nat → Nat} {H : Nat} {x : Int32} (hH : H ≤ 6) : ∀ i, i ≤ H → (gF w dp H x i).1 < 64 ∧ ∀ g, g < 6 → (hasP (nI (gF w dp H x i).1) g ↔ (i ≤ g ∧ g < H))
  | 0 => fun _ => ⟨by have := (shl6 hH).2; show 2 ^ H - 1 < 64; omega, fun g hg => by
    have : ∀ H : Fin 7, ∀ h : Fin 6, hasP (nI (2 ^ H.1 - 1)) h.1 ↔ (0 ≤ h.1 ∧ h.1 < H.1) := by decide +kernel
    exact this ⟨H, by omega⟩ ⟨g, hg⟩⟩
  | i + 1 => fun hi => by
    obtain ⟨h1, h2⟩ := gF_l (w := w) (dp := dp) (x := x) hH i (by omega)
    rw [gF_s, gS_1]
    refine ⟨clr_lt h1 (by omega), fun g hg => ?_⟩
    rw [clr_hs h1 (by omega) hg, h2 g hg]
    omega
theorem g_ex {w : Nat → Int32} {dp : Nat → Nat} {h l : Nat} {x : Int32} (hh : h < 6) (hl : l < 64) (hlh : hasP (nI l) h) (hne : ¬ moD w dp x 25 (clr l h) = moD w dp x 25 l) : gCl w dp h l x < 25 ∧ gP w dp h l x (gCl w dp h l x) ∧ ∀ c, c < gCl w dp h l x → ¬ gP w dp h l x c := by
  have hE : ∀ b, (moD w dp x 25 l ≤ b ↔ moD w dp x 25 (clr l h) ≤ b ∧ ∀ c, 25 - 25 ≤ c → c < 25 → hasP x c → hasP (rtW w h) c → dp c + moD w dp (xcl x c) 25 (clr l h) ≤ b) := fun b => moU_E (u := fun _ c => dp c) (rt := rtW w) hh 25 (Nat.le_refl _) l x b hl hlh
  have h1 := (hE _).mp (Nat.le_refl (moD w dp x 25 l))
  have : ∃ c, c < 25 ∧ gP w dp h l x c := by
    apply Classical.byContradiction
    intro hn
    have hlt : moD w dp x 25 (clr l h) < moD w dp x 25 l := by have := h1.1; omega
    have h2 : moD w dp x 25 l ≤ moD w dp x 25 l - 1 := by
      refine (hE _).mpr ⟨by omega, fun c _ h3 h4 h5 => ?_⟩
      have h6 := h1.2 c (by omega) h3 h4 h5
      have h7 : ¬ gP w dp h l x c := fun q => hn ⟨c, h3, q⟩
      have h8 : hasP (x &&& rtW w h) c := by
        rw [hasP_bt (by omega)] at h4 h5 ⊢
        rw [b_and, h4, h5]; rfl
      have h9 : ¬ dp c + moD w dp (xcl x c) 25 (clr l h) = moD w dp x 25 l := fun q => h7 ⟨h8, q⟩
      omega
    omega
  obtain ⟨c, hc, hp⟩ := this
  obtain ⟨-, a2, a3, a4⟩ := fK_spec (p := fun c => gP w dp h l x c) 25 0 ⟨c, by omega, by omega, hp⟩
  exact ⟨by omega, a3, fun c hc => a4 c (by omega) hc⟩
/-- from the last cell down to the first one at which p holds -/
theorem fK_dn {p : Nat → Prop} [∀ k, Decidable (p k)] : ∀ i, i < 25 → fK p (i + 1) (24 - i) = if p (24 - i) then 24 - i else fK p i (25 - i) := fun i hi => by
  rw [fK, show 24 - i + 1 = 25 - i by omega]
def dnV (p : Nat → Prop) [∀ k, Decidable (p k)] (i : Nat) : Int32 := forN (fun i y => if p (24 - i) then nI (24 - i) else y) (-1) i
theorem dnV_s {p : Nat → Prop} [∀ k, Decidable (p k)] {i : Nat} : dnV p (i + 1) = if p (24 - i) then nI (24 - i) else dnV p i := rfl
theorem dnV_e {p : Nat → Prop} [∀ k, Decidable (p k)] : ∀ i, i ≤ 25 → (∃ c, 25 - i ≤ c ∧ c < 25 ∧ p c) → dnV p i = nI (fK p i (25 - i))
  | 0 => fun _ ⟨c, h1, h2, _⟩ => absurd h1 (by omega)
  | i + 1 => fun hi ⟨c, h1, h2, h3⟩ => by
    rw [dnV_s, show 25 - (i + 1) = 24 - i by omega, fK_dn i (by omega)]
    by_cases e : p (24 - i)
    · rw [if_pos e, if_pos e]
    · rw [if_neg e, if_neg e]
      have : c ≠ 24 - i := fun q => e (by rw [← q]; exact h3)
      exact dnV_e i (by omega) ⟨c, by omega, h2, h3⟩

theorem m_placedN {d : Nat} {K : Nat → Nat × Nat} {I : Nat → Nat → Int32} {L : Nat → Nat → Int64} {R : Nat → Nat → Option Nat} {n s : Nat} {Q : Lo → Lm → Prop} {H : Nat} {dp : Nat → Nat} (hT : TK K R n) (hw : I 319 0 = nI H) (hH6 : H ≤ 6) (hdp : DpW (I 319) dp) (kk : ∀ J, AskJ I J → Q (.inl (some (.int (nI (moD (I 319) dp (openS (Sv (I 319))) 25 (2 ^ H - 1)))))) (K, J, L, R, n, s)) : Ok (d + 5) 330 [.ref 318, .int (-1)] (K, I, L, R, n, s) Q := by
  obtain ⟨-, -, hn⟩ := id hT
  have hpw := shl6 hH6
  refine Ok.enter (F := F_330) (ls := [.ref 318, .int (-1), lDead, lDead, lDead, lDead, lDead, lDead]) rfl rfl ?_
  refine wp_aload0 (pc' := 1) rfl rfl ?_
  refine wp_iconst (v := nI 0) (pc' := 2) rfl rfl rfl ?_
  refine wp_putI (pc' := 5) rfl rfl (by first | exact TK.k1 hT rfl | exact TK.kk hT rfl | exact TK.r hT rfl | assumption) (by omega) rfl ?_
  obtain ⟨M, hM⟩ : ∃ M, M = up2 I 318 0 (nI 0) := ⟨_, rfl⟩
  have hM9 : M 319 = I 319 := by rw [hM]; exact up2_row (by decide)
  have hM7 : M 318 7 = I 318 7 := by rw [hM, up2_same, if_neg (by decide)]
  rw [← hM]
  refine wp_aload0 (pc' := 6) rfl rfl ?_
  refine wp_iload1 (pc' := 7) rfl rfl ?_
  refine wp_iconst (v := (-1)) (pc' := 8) rfl rfl rfl ?_
  refine wp_icmpeqT rfl rfl ?_
  refine wp_iconst (v := nI 0) (pc' := 24) rfl rfl rfl ?_
  refine wp_iconst (v := nI 1) (pc' := 25) rfl rfl rfl ?_
  refine wp_callV3 (pc' := 28) rfl rfl rfl rfl rfl (by first | exact TK.k1 hT rfl | exact TK.kk hT rfl | exact TK.r hT rfl | assumption) rfl rfl ?_
  refine m_tfN hT ?_
  refine Cont.v ?_
  refine wp_ifeqT rfl rfl ?_
  refine wp_iconst (v := nI 1) (pc' := 34) rfl rfl rfl ?_
  refine wp_aload0 (pc' := 35) rfl rfl ?_
  refine wp_callV1 (pc' := 38) rfl rfl rfl rfl rfl (by first | exact TK.k1 hT rfl | exact TK.kk hT rfl | exact TK.r hT rfl | assumption) rfl rfl ?_
  refine m_hearths (H := H) hT (by rw [hM9]; exact hw) ?_
  refine Cont.v ?_
  refine wp_ishl (pc' := 39) rfl rfl ?_
  rw [hpw.1]
  refine wp_iconst (v := nI 1) (pc' := 40) rfl rfl rfl ?_
  first | refine wp_isubN (pc' := 41) rfl (by with_reducible rfl) (by with_reducible rfl) (by omega) rfl ?_ | refine wp_isub (pc' := 41) rfl rfl ?_
  refine wp_istore2 (pc' := 42) rfl (by first | rfl | assumption) rfl ?_
  refine wp_aload0 (pc' := 43) rfl rfl ?_
  refine wp_callV1 (pc' := 46) rfl rfl rfl rfl rfl (by first | exact TK.k1 hT rfl | exact TK.kk hT rfl | exact TK.r hT rfl | assumption) rfl rfl ?_
  refine m_allOpen hT ?_
  rw [hM9]
  refine Cont.v ?_
  refine wp_istore3 (pc' := 47) rfl (by first | rfl | assumption) rfl ?_
  refine wp_aload0 (pc' := 48) rfl rfl ?_
  refine wp_iload2 (pc' := 49) rfl rfl ?_
  refine wp_iload3 (pc' := 50) rfl rfl ?_
  refine wp_callV3 (pc' := 53) rfl rfl rfl rfl rfl (by first | exact TK.k1 hT rfl | exact TK.kk hT rfl | exact TK.r hT rfl | assumption) rfl rfl ?_
  refine m_mostOf (dp := dp) hT (by omega) (by rw [hM9]; exact hdp) (fun V0 => ?_)
  rw [hM9]
  refine Cont.v ?_
  refine wp_istore4 (pc' := 55) rfl (by first | rfl | assumption) rfl ?_
  refine wp_iload1 (pc' := 56) rfl rfl ?_
  refine wp_iconst (v := (-1)) (pc' := 57) rfl rfl rfl ?_
  refine wp_icmpneF (pc' := 60) rfl rfl rfl ?_
  refine wp_iload4 (pc' := 62) rfl rfl ?_
  refine wp_iret rfl rfl rfl ?_
  exact kk _ (ask_mk0 (by rw [← hM]; exact KpS.rfl'.upr (by omega)) (by rw [upr_ne (by decide)]; exact hM9))
theorem m_placedH {d : Nat} {K : Nat → Nat × Nat} {I : Nat → Nat → Int32} {L : Nat → Nat → Int64} {R : Nat → Nat → Option Nat} {n s : Nat} {Q : Lo → Lm → Prop} {H hh : Nat} {dp : Nat → Nat} (hT : TK K R n) (hw : I 319 0 = nI H) (hH6 : H ≤ 6) (hdp : DpW (I 319) dp) (hh2 : hh < H) (kk : ∀ J, AskJ I J → Q (.inl (some (.int ((gF (I 319) dp H (openS (Sv (I 319))) (hh + 1)).2.2)))) (K, J, L, R, n, s)) : Ok (d + 5) 330 [.ref 318, .int (nI hh)] (K, I, L, R, n, s) Q := by
  obtain ⟨-, -, hn⟩ := id hT
  have hpw := shl6 hH6
  refine Ok.enter (F := F_330) (ls := [.ref 318, .int (nI hh), lDead, lDead, lDead, lDead, lDead, lDead]) rfl rfl ?_
  refine wp_aload0 (pc' := 1) rfl rfl ?_
  refine wp_iconst (v := nI 0) (pc' := 2) rfl rfl rfl ?_
  refine wp_putI (pc' := 5) rfl rfl (by first | exact TK.k1 hT rfl | exact TK.kk hT rfl | exact TK.r hT rfl | assumption) (by omega) rfl ?_
  obtain ⟨M, hM⟩ : ∃ M, M = up2 I 318 0 (nI 0) := ⟨_, rfl⟩
  have hM9 : M 319 = I 319 := by rw [hM]; exact up2_row (by decide)
  have hM7 : M 318 7 = I 318 7 := by rw [hM, up2_same, if_neg (by decide)]
  rw [← hM]
  refine wp_aload0 (pc' := 6) rfl rfl ?_
  refine wp_iload1 (pc' := 7) rfl rfl ?_
  refine wp_iconst (v := (-1)) (pc' := 8) rfl rfl rfl ?_
  refine wp_icmpeqF (pc' := 11) rfl (nI_nm1 (by omega)) rfl ?_
  refine wp_aload0 (pc' := 12) rfl rfl ?_
  refine wp_iload1 (pc' := 13) rfl rfl ?_
  refine wp_callV2 (pc' := 16) rfl rfl rfl rfl rfl (by first | exact TK.k1 hT rfl | exact TK.kk hT rfl | exact TK.r hT rfl | assumption) rfl rfl ?_
  refine m_noH1 hT (by rw [hM9]; exact hw) hH6 hh2 ?_
  refine Cont.v ?_
  refine wp_ifeqT rfl rfl ?_
  refine wp_iconst (v := nI 0) (pc' := 24) rfl rfl rfl ?_
  refine wp_iconst (v := nI 1) (pc' := 25) rfl rfl rfl ?_
  refine wp_callV3 (pc' := 28) rfl rfl rfl rfl rfl (by first | exact TK.k1 hT rfl | exact TK.kk hT rfl | exact TK.r hT rfl | assumption) rfl rfl ?_
  refine m_tfN hT ?_
  refine Cont.v ?_
  refine wp_ifeqT rfl rfl ?_
  refine wp_iconst (v := nI 1) (pc' := 34) rfl rfl rfl ?_
  refine wp_aload0 (pc' := 35) rfl rfl ?_
  refine wp_callV1 (pc' := 38) rfl rfl rfl rfl rfl (by first | exact TK.k1 hT rfl | exact TK.kk hT rfl | exact TK.r hT rfl | assumption) rfl rfl ?_
  refine m_hearths (H := H) hT (by rw [hM9]; exact hw) ?_
  refine Cont.v ?_
  refine wp_ishl (pc' := 39) rfl rfl ?_
  rw [hpw.1]
  refine wp_iconst (v := nI 1) (pc' := 40) rfl rfl rfl ?_
  first | refine wp_isubN (pc' := 41) rfl (by with_reducible rfl) (by with_reducible rfl) (by omega) rfl ?_ | refine wp_isub (pc' := 41) rfl rfl ?_
  refine wp_istore2 (pc' := 42) rfl (by first | rfl | assumption) rfl ?_
  refine wp_aload0 (pc' := 43) rfl rfl ?_
  refine wp_callV1 (pc' := 46) rfl rfl rfl rfl rfl (by first | exact TK.k1 hT rfl | exact TK.kk hT rfl | exact TK.r hT rfl | assumption) rfl rfl ?_
  refine m_allOpen hT ?_
  rw [hM9]
  refine Cont.v ?_
  refine wp_istore3 (pc' := 47) rfl (by first | rfl | assumption) rfl ?_
  refine wp_aload0 (pc' := 48) rfl rfl ?_
  refine wp_iload2 (pc' := 49) rfl rfl ?_
  refine wp_iload3 (pc' := 50) rfl rfl ?_
  refine wp_callV3 (pc' := 53) rfl rfl rfl rfl rfl (by first | exact TK.k1 hT rfl | exact TK.kk hT rfl | exact TK.r hT rfl | assumption) rfl rfl ?_
  refine m_mostOf (dp := dp) hT (by omega) (by rw [hM9]; exact hdp) (fun V0 => ?_)
  rw [hM9]
  refine Cont.v ?_
  refine wp_istore4 (pc' := 55) rfl (by first | rfl | assumption) rfl ?_
  refine wp_iload1 (pc' := 56) rfl rfl ?_
  refine wp_iconst (v := (-1)) (pc' := 57) rfl rfl rfl ?_
  refine wp_icmpneT rfl (nI_nm1 (by omega)) ?_
  refine wp_iconst (v := (-1)) (pc' := 64) rfl rfl rfl ?_
  refine wp_istore5 (pc' := 66) rfl (by first | rfl | assumption) rfl ?_
  refine wp_iconst (v := nI 0) (pc' := 67) rfl rfl rfl ?_
  refine wp_istore6 (pc' := 69) rfl (by first | rfl | assumption) rfl ?_
  have lp69 : ∀ r (i : Nat) (V : Nat → Int32) (v7 : Value), i + r = (hh + 1) → isL v7 = false → WP (d + 4) F_330 69 [.ref 318, .int (nI hh), .int (nI (gF (I 319) dp H (openS (Sv (I 319))) i).1), .int (gF (I 319) dp H (openS (Sv (I 319))) i).2.1, .int (nI (moD (I 319) dp (gF (I 319) dp H (openS (Sv (I 319))) i).2.1 25 (gF (I 319) dp H (openS (Sv (I 319))) i).1)), .int (gF (I 319) dp H (openS (Sv (I 319))) i).2.2, .int (nI i), v7] [] (K, upr M 333 V, L, R, n, s) Q := by
    intro r; induction r with
    | zero =>
      intro i V v7 hi hv0
      have hi2 : i = (hh + 1) := by omega
      subst hi2
      refine wp_iload6 (pc' := 71) rfl rfl ?_
      refine wp_iload1 (pc' := 72) rfl rfl ?_
      refine wp_icmpgtT rfl (nI_lt (by omega) (by omega)) ?_
      refine wp_iload5 (pc' := 192) rfl rfl ?_
      refine wp_iret rfl rfl rfl ?_
      exact kk _ (ask_mk0 (by rw [← hM]; exact KpS.rfl'.upr (by omega)) (by rw [upr_ne (by decide)]; exact hM9))
    | succ r ih =>
      intro i V v7 hi hv0
      have hlt : i < (hh + 1) := by omega
      have hgl := gF_l (w := I 319) (dp := dp) (x := (openS (Sv (I 319)))) hH6 i (by omega)
      refine wp_iload6 (pc' := 71) rfl rfl ?_
      refine wp_iload1 (pc' := 72) rfl rfl ?_
      refine wp_icmpgtF (pc' := 75) rfl (nI_nlt (by omega) (by omega)) rfl ?_
      refine wp_iload2 (pc' := 76) rfl rfl ?_
      refine wp_iconst (v := nI 1) (pc' := 77) rfl rfl rfl ?_
      refine wp_iload6 (pc' := 79) rfl rfl ?_
      refine wp_ishl (pc' := 80) rfl rfl ?_
      refine wp_iconst (v := (-1)) (pc' := 81) rfl rfl rfl ?_
      refine wp_ixor (pc' := 82) rfl rfl ?_
      refine wp_iand (pc' := 83) rfl rfl ?_
      rw [clr_nI hgl.1 (by omega)]
      refine wp_istore2 (pc' := 84) rfl (by first | rfl | assumption) rfl ?_
      refine wp_iconst (v := (-1)) (pc' := 85) rfl rfl rfl ?_
      refine wp_istore5 (pc' := 87) rfl (by first | rfl | assumption) rfl ?_
      refine wp_aload0 (pc' := 88) rfl rfl ?_
      refine wp_iload2 (pc' := 89) rfl rfl ?_
      refine wp_iload3 (pc' := 90) rfl rfl ?_
      refine wp_callV3 (pc' := 93) rfl rfl rfl rfl rfl (by first | exact TK.k1 hT rfl | exact TK.kk hT rfl | exact TK.r hT rfl | assumption) rfl rfl ?_
      refine m_mostOf (dp := dp) hT (clr_lt hgl.1 (by omega)) (by rw [upr_ne (show (319 : Nat) ≠ 333 by decide), hM9]; exact hdp) (fun V2 => ?_)
      rw [upr_upr, upr_ne (show (319 : Nat) ≠ 333 by decide), hM9]
      refine Cont.v ?_
      refine wp_iload4 (pc' := 95) rfl rfl ?_
      refine wp_icmpne (pc' := 98) rfl rfl ?_ ?_
      · intro h95
        have h95n : ¬ moD (I 319) dp (gF (I 319) dp H (openS (Sv (I 319))) i).2.1 25 (clr (gF (I 319) dp H (openS (Sv (I 319))) i).1 i) = moD (I 319) dp (gF (I 319) dp H (openS (Sv (I 319))) i).2.1 25 (gF (I 319) dp H (openS (Sv (I 319))) i).1 := fun q => h95 (by rw [q])
        refine wp_bipush (v := nI 24) (pc' := 103) rfl rfl rfl ?_
        refine wp_istore7 (pc' := 105) rfl (by first | rfl | assumption) rfl ?_
        have lp105 : ∀ rb (j : Nat) (V3 : Nat → Int32), j + rb = 25 → WP (d + 4) F_330 105 [.ref 318, .int (nI hh), .int (nI (clr (gF (I 319) dp H (openS (Sv (I 319))) i).1 i)), .int (gF (I 319) dp H (openS (Sv (I 319))) i).2.1, .int (nI (moD (I 319) dp (gF (I 319) dp H (openS (Sv (I 319))) i).2.1 25 (gF (I 319) dp H (openS (Sv (I 319))) i).1)), .int (dnV (gP (I 319) dp i (gF (I 319) dp H (openS (Sv (I 319))) i).1 (gF (I 319) dp H (openS (Sv (I 319))) i).2.1) j), .int (nI i), .int (nI 24 - nI j)] [] (K, upr M 333 V3, L, R, n, s) Q := by
          intro rb; induction rb with
          | zero =>
            intro j V3 hib 
            have hi2b : j = 25 := by omega
            subst hi2b
            refine wp_iload7 (pc' := 107) rfl rfl ?_
            refine wp_ifltT rfl (by decide) ?_
            have hgx := g_ex (w := I 319) (dp := dp) (h := i) (l := (gF (I 319) dp H (openS (Sv (I 319))) i).1) (x := (gF (I 319) dp H (openS (Sv (I 319))) i).2.1) (by omega) hgl.1 ((hgl.2 i (by omega)).mpr (by omega)) h95n
            rw [show dnV (gP (I 319) dp i (gF (I 319) dp H (openS (Sv (I 319))) i).1 (gF (I 319) dp H (openS (Sv (I 319))) i).2.1) 25 = nI (gCl (I 319) dp i (gF (I 319) dp H (openS (Sv (I 319))) i).1 (gF (I 319) dp H (openS (Sv (I 319))) i).2.1) from dnV_e 25 (Nat.le_refl _) ⟨_, by omega, hgx.1, hgx.2.1⟩]
            have hdg := (hdp (gCl (I 319) dp i (gF (I 319) dp H (openS (Sv (I 319))) i).1 (gF (I 319) dp H (openS (Sv (I 319))) i).2.1) hgx.1).2
            have hbb := dp_b hdp 25 (Nat.le_refl _) (gF (I 319) dp H (openS (Sv (I 319))) i).2.1 (gF (I 319) dp H (openS (Sv (I 319))) i).1
            refine wp_iload4 (pc' := 165) rfl rfl ?_
            refine wp_aload0 (pc' := 166) rfl rfl ?_
            refine wp_iload5 (pc' := 168) rfl rfl ?_
            refine wp_iconst (v := nI 0) (pc' := 169) rfl rfl rfl ?_
            refine wp_callV3 (pc' := 172) rfl rfl rfl rfl rfl (by first | exact TK.k1 hT rfl | exact TK.kk hT rfl | exact TK.r hT rfl | assumption) rfl rfl ?_
            refine m_of hT (by omega) (by decide) ?_
            rw [upr_ne (show (319 : Nat) ≠ 333 by decide), hM9, (hdp _ (by omega)).1]
            refine Cont.v ?_
            refine wp_isubN (pc' := 173) rfl (by with_reducible rfl) (by with_reducible rfl) (by have := hgx.2.1.2; omega) rfl ?_
            rw [show moD (I 319) dp (gF (I 319) dp H (openS (Sv (I 319))) i).2.1 25 (gF (I 319) dp H (openS (Sv (I 319))) i).1 - dp (gCl (I 319) dp i (gF (I 319) dp H (openS (Sv (I 319))) i).1 (gF (I 319) dp H (openS (Sv (I 319))) i).2.1) = moD (I 319) dp (xcl (gF (I 319) dp H (openS (Sv (I 319))) i).2.1 (gCl (I 319) dp i (gF (I 319) dp H (openS (Sv (I 319))) i).1 (gF (I 319) dp H (openS (Sv (I 319))) i).2.1)) 25 (clr (gF (I 319) dp H (openS (Sv (I 319))) i).1 i) by have := hgx.2.1.2; omega]
            refine wp_istore4 (pc' := 175) rfl (by first | rfl | assumption) rfl ?_
            refine wp_iload3 (pc' := 176) rfl rfl ?_
            refine wp_iconst (v := nI 1) (pc' := 177) rfl rfl rfl ?_
            refine wp_iload5 (pc' := 179) rfl rfl ?_
            refine wp_ishl (pc' := 180) rfl rfl ?_
            refine wp_iconst (v := (-1)) (pc' := 181) rfl rfl rfl ?_
            refine wp_ixor (pc' := 182) rfl rfl ?_
            refine wp_iand (pc' := 183) rfl rfl ?_
            refine wp_istore3 (pc' := 184) rfl (by first | rfl | assumption) rfl ?_
            first | refine wp_iinc6 (w := nI 1) (pc' := 187) rfl rfl rfl (by with_reducible exact nI_add _ _) rfl ?_ | refine wp_iinc6 (w := nI 1) (pc' := 187) rfl rfl rfl rfl rfl ?_
            refine wp_goto rfl ?_
            exact WP.cg (ih (i + 1) _ _ (by omega) (by first | rfl | assumption)) (lC1 (lI1 (by first | with_reducible rfl | (rw [gF_s, gSt, if_pos (eq_nI h95 (by have := dp_b hdp 25 (Nat.le_refl _) (gF (I 319) dp H (openS (Sv (I 319))) i).2.1 (clr (gF (I 319) dp H (openS (Sv (I 319))) i).1 i); omega) (by have := dp_b hdp 25 (Nat.le_refl _) (gF (I 319) dp H (openS (Sv (I 319))) i).2.1 (gF (I 319) dp H (openS (Sv (I 319))) i).1; omega))]; done) | (rw [gF_s, gSt, if_neg h95n]; done) | (rw [gF_s, gSt, if_pos (eq_nI h95 (by have := dp_b hdp 25 (Nat.le_refl _) (gF (I 319) dp H (openS (Sv (I 319))) i).2.1 (clr (gF (I 319) dp H (openS (Sv (I 319))) i).1 i); omega) (by have := dp_b hdp 25 (Nat.le_refl _) (gF (I 319) dp H (openS (Sv (I 319))) i).2.1 (gF (I 319) dp H (openS (Sv (I 319))) i).1; omega))]; exact h95.symm)) (lI1 (by first | with_reducible rfl | (rw [gF_s, gSt, if_pos (eq_nI h95 (by have := dp_b hdp 25 (Nat.le_refl _) (gF (I 319) dp H (openS (Sv (I 319))) i).2.1 (clr (gF (I 319) dp H (openS (Sv (I 319))) i).1 i); omega) (by have := dp_b hdp 25 (Nat.le_refl _) (gF (I 319) dp H (openS (Sv (I 319))) i).2.1 (gF (I 319) dp H (openS (Sv (I 319))) i).1; omega))]; done) | (rw [gF_s, gSt, if_neg h95n]; done) | (rw [gF_s, gSt, if_pos (eq_nI h95 (by have := dp_b hdp 25 (Nat.le_refl _) (gF (I 319) dp H (openS (Sv (I 319))) i).2.1 (clr (gF (I 319) dp H (openS (Sv (I 319))) i).1 i); omega) (by have := dp_b hdp 25 (Nat.le_refl _) (gF (I 319) dp H (openS (Sv (I 319))) i).2.1 (gF (I 319) dp H (openS (Sv (I 319))) i).1; omega))]; exact h95.symm)) (lI1 (by first | with_reducible rfl | (rw [gF_s, gSt, if_pos (eq_nI h95 (by have := dp_b hdp 25 (Nat.le_refl _) (gF (I 319) dp H (openS (Sv (I 319))) i).2.1 (clr (gF (I 319) dp H (openS (Sv (I 319))) i).1 i); omega) (by have := dp_b hdp 25 (Nat.le_refl _) (gF (I 319) dp H (openS (Sv (I 319))) i).2.1 (gF (I 319) dp H (openS (Sv (I 319))) i).1; omega))]; done) | (rw [gF_s, gSt, if_neg h95n]; done) | (rw [gF_s, gSt, if_pos (eq_nI h95 (by have := dp_b hdp 25 (Nat.le_refl _) (gF (I 319) dp H (openS (Sv (I 319))) i).2.1 (clr (gF (I 319) dp H (openS (Sv (I 319))) i).1 i); omega) (by have := dp_b hdp 25 (Nat.le_refl _) (gF (I 319) dp H (openS (Sv (I 319))) i).2.1 (gF (I 319) dp H (openS (Sv (I 319))) i).1; omega))]; exact h95.symm)) (lI1 (by first | with_reducible rfl | (rw [gF_s, gSt, if_pos (eq_nI h95 (by have := dp_b hdp 25 (Nat.le_refl _) (gF (I 319) dp H (openS (Sv (I 319))) i).2.1 (clr (gF (I 319) dp H (openS (Sv (I 319))) i).1 i); omega) (by have := dp_b hdp 25 (Nat.le_refl _) (gF (I 319) dp H (openS (Sv (I 319))) i).2.1 (gF (I 319) dp H (openS (Sv (I 319))) i).1; omega))]; done) | (rw [gF_s, gSt, if_neg h95n]; done) | (rw [gF_s, gSt, if_pos (eq_nI h95 (by have := dp_b hdp 25 (Nat.le_refl _) (gF (I 319) dp H (openS (Sv (I 319))) i).2.1 (clr (gF (I 319) dp H (openS (Sv (I 319))) i).1 i); omega) (by have := dp_b hdp 25 (Nat.le_refl _) (gF (I 319) dp H (openS (Sv (I 319))) i).2.1 (gF (I 319) dp H (openS (Sv (I 319))) i).1; omega))]; exact h95.symm)) (lI1 (by first | with_reducible rfl | (rw [gF_s, gSt, if_pos (eq_nI h95 (by have := dp_b hdp 25 (Nat.le_refl _) (gF (I 319) dp H (openS (Sv (I 319))) i).2.1 (clr (gF (I 319) dp H (openS (Sv (I 319))) i).1 i); omega) (by have := dp_b hdp 25 (Nat.le_refl _) (gF (I 319) dp H (openS (Sv (I 319))) i).2.1 (gF (I 319) dp H (openS (Sv (I 319))) i).1; omega))]; done) | (rw [gF_s, gSt, if_neg h95n]; done) | (rw [gF_s, gSt, if_pos (eq_nI h95 (by have := dp_b hdp 25 (Nat.le_refl _) (gF (I 319) dp H (openS (Sv (I 319))) i).2.1 (clr (gF (I 319) dp H (openS (Sv (I 319))) i).1 i); omega) (by have := dp_b hdp 25 (Nat.le_refl _) (gF (I 319) dp H (openS (Sv (I 319))) i).2.1 (gF (I 319) dp H (openS (Sv (I 319))) i).1; omega))]; exact h95.symm)) (lI1 (by first | with_reducible rfl | (rw [gF_s, gSt, if_pos (eq_nI h95 (by have := dp_b hdp 25 (Nat.le_refl _) (gF (I 319) dp H (openS (Sv (I 319))) i).2.1 (clr (gF (I 319) dp H (openS (Sv (I 319))) i).1 i); omega) (by have := dp_b hdp 25 (Nat.le_refl _) (gF (I 319) dp H (openS (Sv (I 319))) i).2.1 (gF (I 319) dp H (openS (Sv (I 319))) i).1; omega))]; done) | (rw [gF_s, gSt, if_neg h95n]; done) | (rw [gF_s, gSt, if_pos (eq_nI h95 (by have := dp_b hdp 25 (Nat.le_refl _) (gF (I 319) dp H (openS (Sv (I 319))) i).2.1 (clr (gF (I 319) dp H (openS (Sv (I 319))) i).1 i); omega) (by have := dp_b hdp 25 (Nat.le_refl _) (gF (I 319) dp H (openS (Sv (I 319))) i).2.1 (gF (I 319) dp H (openS (Sv (I 319))) i).1; omega))]; exact h95.symm)) (lC1 rfl)))))))) rfl (by rfl)
          | succ rb ihb =>
            intro j V3 hib 
            have hltb : j < 25 := by omega
            rw [nI_sub (show j ≤ 24 by omega)]
            have hD := dec24 ⟨j, by omega⟩
            dsimp only at hD
            have hdj := (hdp (24 - j) (by omega)).2
            have hb1 : moD (I 319) dp ((gF (I 319) dp H (openS (Sv (I 319))) i).2.1 &&& (jshl (nI 1) (nI (24 - j)) ^^^ (-1))) 25 (clr (gF (I 319) dp H (openS (Sv (I 319))) i).1 i) ≤ 225 := dp_b hdp 25 (Nat.le_refl _) _ _
            have hb2 := dp_b hdp 25 (Nat.le_refl _) (gF (I 319) dp H (openS (Sv (I 319))) i).2.1 (gF (I 319) dp H (openS (Sv (I 319))) i).1
            refine wp_iload7 (pc' := 107) rfl rfl ?_
            refine wp_ifltF (pc' := 110) rfl (nI_pos (by omega)) rfl ?_
            refine wp_iload3 (pc' := 111) rfl rfl ?_
            refine wp_aload0 (pc' := 112) rfl rfl ?_
            refine wp_iload6 (pc' := 114) rfl rfl ?_
            refine wp_iconst (v := nI 3) (pc' := 115) rfl rfl rfl ?_
            refine wp_callV3 (pc' := 118) rfl rfl rfl rfl rfl (by first | exact TK.k1 hT rfl | exact TK.kk hT rfl | exact TK.r hT rfl | assumption) rfl rfl ?_
            refine m_ofH hT (by omega) (by decide) ?_
            rw [upr_ne (show (319 : Nat) ≠ 333 by decide), hM9]
            refine Cont.v ?_
            refine wp_iand (pc' := 119) rfl rfl ?_
            refine wp_iload7 (pc' := 121) rfl rfl ?_
            refine wp_callS2 (pc' := 124) rfl rfl rfl rfl rfl rfl ?_
            refine m_has ?_
            refine Cont.v ?_
            first | refine wp_ifeqB (pc' := 127) rfl rfl ?_ ?_ | refine wp_ifeq (pc' := 127) rfl rfl ?_ ?_
            · intro h124
              first | refine wp_iinc7 (w := (-1)) (pc' := 160) rfl rfl rfl (by with_reducible exact nI_sub1 (by omega)) rfl ?_ | refine wp_iinc7 (w := (-1)) (pc' := 160) rfl rfl rfl rfl rfl ?_
              refine wp_goto rfl ?_
              exact WP.cg (ihb (j + 1) _ (by omega)) (lC1 (lI1 (by first | with_reducible rfl | with_reducible exact hD | (rw [dnV_s, if_pos (show (gP (I 319) dp i (gF (I 319) dp H (openS (Sv (I 319))) i).1 (gF (I 319) dp H (openS (Sv (I 319))) i).2.1) (24 - j) from And.intro h124 h150n)]; done) | (rw [dnV_s, if_neg (show ¬ (gP (I 319) dp i (gF (I 319) dp H (openS (Sv (I 319))) i).1 (gF (I 319) dp H (openS (Sv (I 319))) i).2.1) (24 - j) from fun q => h150 (by rw [q.2]))]; done) | (rw [dnV_s, if_neg (show ¬ (gP (I 319) dp i (gF (I 319) dp H (openS (Sv (I 319))) i).1 (gF (I 319) dp H (openS (Sv (I 319))) i).2.1) (24 - j) from fun q => h124 q.1)]; done)) (lI1 (by first | with_reducible rfl | with_reducible exact hD | (rw [dnV_s, if_pos (show (gP (I 319) dp i (gF (I 319) dp H (openS (Sv (I 319))) i).1 (gF (I 319) dp H (openS (Sv (I 319))) i).2.1) (24 - j) from And.intro h124 h150n)]; done) | (rw [dnV_s, if_neg (show ¬ (gP (I 319) dp i (gF (I 319) dp H (openS (Sv (I 319))) i).1 (gF (I 319) dp H (openS (Sv (I 319))) i).2.1) (24 - j) from fun q => h150 (by rw [q.2]))]; done) | (rw [dnV_s, if_neg (show ¬ (gP (I 319) dp i (gF (I 319) dp H (openS (Sv (I 319))) i).1 (gF (I 319) dp H (openS (Sv (I 319))) i).2.1) (24 - j) from fun q => h124 q.1)]; done)) (lI1 (by first | with_reducible rfl | with_reducible exact hD | (rw [dnV_s, if_pos (show (gP (I 319) dp i (gF (I 319) dp H (openS (Sv (I 319))) i).1 (gF (I 319) dp H (openS (Sv (I 319))) i).2.1) (24 - j) from And.intro h124 h150n)]; done) | (rw [dnV_s, if_neg (show ¬ (gP (I 319) dp i (gF (I 319) dp H (openS (Sv (I 319))) i).1 (gF (I 319) dp H (openS (Sv (I 319))) i).2.1) (24 - j) from fun q => h150 (by rw [q.2]))]; done) | (rw [dnV_s, if_neg (show ¬ (gP (I 319) dp i (gF (I 319) dp H (openS (Sv (I 319))) i).1 (gF (I 319) dp H (openS (Sv (I 319))) i).2.1) (24 - j) from fun q => h124 q.1)]; done)) (lI1 (by first | with_reducible rfl | with_reducible exact hD | (rw [dnV_s, if_pos (show (gP (I 319) dp i (gF (I 319) dp H (openS (Sv (I 319))) i).1 (gF (I 319) dp H (openS (Sv (I 319))) i).2.1) (24 - j) from And.intro h124 h150n)]; done) | (rw [dnV_s, if_neg (show ¬ (gP (I 319) dp i (gF (I 319) dp H (openS (Sv (I 319))) i).1 (gF (I 319) dp H (openS (Sv (I 319))) i).2.1) (24 - j) from fun q => h150 (by rw [q.2]))]; done) | (rw [dnV_s, if_neg (show ¬ (gP (I 319) dp i (gF (I 319) dp H (openS (Sv (I 319))) i).1 (gF (I 319) dp H (openS (Sv (I 319))) i).2.1) (24 - j) from fun q => h124 q.1)]; done)) (lI1 (by first | with_reducible rfl | with_reducible exact hD | (rw [dnV_s, if_pos (show (gP (I 319) dp i (gF (I 319) dp H (openS (Sv (I 319))) i).1 (gF (I 319) dp H (openS (Sv (I 319))) i).2.1) (24 - j) from And.intro h124 h150n)]; done) | (rw [dnV_s, if_neg (show ¬ (gP (I 319) dp i (gF (I 319) dp H (openS (Sv (I 319))) i).1 (gF (I 319) dp H (openS (Sv (I 319))) i).2.1) (24 - j) from fun q => h150 (by rw [q.2]))]; done) | (rw [dnV_s, if_neg (show ¬ (gP (I 319) dp i (gF (I 319) dp H (openS (Sv (I 319))) i).1 (gF (I 319) dp H (openS (Sv (I 319))) i).2.1) (24 - j) from fun q => h124 q.1)]; done)) (lI1 (by first | with_reducible rfl | with_reducible exact hD | (rw [dnV_s, if_pos (show (gP (I 319) dp i (gF (I 319) dp H (openS (Sv (I 319))) i).1 (gF (I 319) dp H (openS (Sv (I 319))) i).2.1) (24 - j) from And.intro h124 h150n)]; done) | (rw [dnV_s, if_neg (show ¬ (gP (I 319) dp i (gF (I 319) dp H (openS (Sv (I 319))) i).1 (gF (I 319) dp H (openS (Sv (I 319))) i).2.1) (24 - j) from fun q => h150 (by rw [q.2]))]; done) | (rw [dnV_s, if_neg (show ¬ (gP (I 319) dp i (gF (I 319) dp H (openS (Sv (I 319))) i).1 (gF (I 319) dp H (openS (Sv (I 319))) i).2.1) (24 - j) from fun q => h124 q.1)]; done)) (lI1 (by first | with_reducible rfl | with_reducible exact hD | (rw [dnV_s, if_pos (show (gP (I 319) dp i (gF (I 319) dp H (openS (Sv (I 319))) i).1 (gF (I 319) dp H (openS (Sv (I 319))) i).2.1) (24 - j) from And.intro h124 h150n)]; done) | (rw [dnV_s, if_neg (show ¬ (gP (I 319) dp i (gF (I 319) dp H (openS (Sv (I 319))) i).1 (gF (I 319) dp H (openS (Sv (I 319))) i).2.1) (24 - j) from fun q => h150 (by rw [q.2]))]; done) | (rw [dnV_s, if_neg (show ¬ (gP (I 319) dp i (gF (I 319) dp H (openS (Sv (I 319))) i).1 (gF (I 319) dp H (openS (Sv (I 319))) i).2.1) (24 - j) from fun q => h124 q.1)]; done)) rfl)))))))) rfl (by rfl)
            · intro h124
              refine wp_aload0 (pc' := 128) rfl rfl ?_
              refine wp_iload7 (pc' := 130) rfl rfl ?_
              refine wp_iconst (v := nI 0) (pc' := 131) rfl rfl rfl ?_
              refine wp_callV3 (pc' := 134) rfl rfl rfl rfl rfl (by first | exact TK.k1 hT rfl | exact TK.kk hT rfl | exact TK.r hT rfl | assumption) rfl rfl ?_
              refine m_of hT (by omega) (by decide) ?_
              rw [upr_ne (show (319 : Nat) ≠ 333 by decide), hM9, (hdp _ (by omega)).1]
              refine Cont.v ?_
              refine wp_aload0 (pc' := 135) rfl rfl ?_
              refine wp_iload2 (pc' := 136) rfl rfl ?_
              refine wp_iload3 (pc' := 137) rfl rfl ?_
              refine wp_iconst (v := nI 1) (pc' := 138) rfl rfl rfl ?_
              refine wp_iload7 (pc' := 140) rfl rfl ?_
              refine wp_ishl (pc' := 141) rfl rfl ?_
              refine wp_iconst (v := (-1)) (pc' := 142) rfl rfl rfl ?_
              refine wp_ixor (pc' := 143) rfl rfl ?_
              refine wp_iand (pc' := 144) rfl rfl ?_
              refine wp_callV3 (pc' := 147) rfl rfl rfl rfl rfl (by first | exact TK.k1 hT rfl | exact TK.kk hT rfl | exact TK.r hT rfl | assumption) rfl rfl ?_
              refine m_mostOf (dp := dp) hT (clr_lt hgl.1 (by omega)) (by rw [upr_ne (show (319 : Nat) ≠ 333 by decide), hM9]; exact hdp) (fun V4 => ?_)
              rw [upr_upr, upr_ne (show (319 : Nat) ≠ 333 by decide), hM9]
              refine Cont.v ?_
              first | refine wp_iaddN (pc' := 148) rfl (by with_reducible rfl) (by with_reducible rfl) rfl ?_ | refine wp_iadd (pc' := 148) rfl rfl ?_
              refine wp_iload4 (pc' := 150) rfl rfl ?_
              refine wp_icmpne (pc' := 153) rfl rfl ?_ ?_
              · intro h150
                first | refine wp_iinc7 (w := (-1)) (pc' := 160) rfl rfl rfl (by with_reducible exact nI_sub1 (by omega)) rfl ?_ | refine wp_iinc7 (w := (-1)) (pc' := 160) rfl rfl rfl rfl rfl ?_
                refine wp_goto rfl ?_
                exact WP.cg (ihb (j + 1) _ (by omega)) (lC1 (lI1 (by first | with_reducible rfl | with_reducible exact hD | (rw [dnV_s, if_pos (show (gP (I 319) dp i (gF (I 319) dp H (openS (Sv (I 319))) i).1 (gF (I 319) dp H (openS (Sv (I 319))) i).2.1) (24 - j) from And.intro h124 h150n)]; done) | (rw [dnV_s, if_neg (show ¬ (gP (I 319) dp i (gF (I 319) dp H (openS (Sv (I 319))) i).1 (gF (I 319) dp H (openS (Sv (I 319))) i).2.1) (24 - j) from fun q => h150 (by rw [q.2]))]; done) | (rw [dnV_s, if_neg (show ¬ (gP (I 319) dp i (gF (I 319) dp H (openS (Sv (I 319))) i).1 (gF (I 319) dp H (openS (Sv (I 319))) i).2.1) (24 - j) from fun q => h124 q.1)]; done)) (lI1 (by first | with_reducible rfl | with_reducible exact hD | (rw [dnV_s, if_pos (show (gP (I 319) dp i (gF (I 319) dp H (openS (Sv (I 319))) i).1 (gF (I 319) dp H (openS (Sv (I 319))) i).2.1) (24 - j) from And.intro h124 h150n)]; done) | (rw [dnV_s, if_neg (show ¬ (gP (I 319) dp i (gF (I 319) dp H (openS (Sv (I 319))) i).1 (gF (I 319) dp H (openS (Sv (I 319))) i).2.1) (24 - j) from fun q => h150 (by rw [q.2]))]; done) | (rw [dnV_s, if_neg (show ¬ (gP (I 319) dp i (gF (I 319) dp H (openS (Sv (I 319))) i).1 (gF (I 319) dp H (openS (Sv (I 319))) i).2.1) (24 - j) from fun q => h124 q.1)]; done)) (lI1 (by first | with_reducible rfl | with_reducible exact hD | (rw [dnV_s, if_pos (show (gP (I 319) dp i (gF (I 319) dp H (openS (Sv (I 319))) i).1 (gF (I 319) dp H (openS (Sv (I 319))) i).2.1) (24 - j) from And.intro h124 h150n)]; done) | (rw [dnV_s, if_neg (show ¬ (gP (I 319) dp i (gF (I 319) dp H (openS (Sv (I 319))) i).1 (gF (I 319) dp H (openS (Sv (I 319))) i).2.1) (24 - j) from fun q => h150 (by rw [q.2]))]; done) | (rw [dnV_s, if_neg (show ¬ (gP (I 319) dp i (gF (I 319) dp H (openS (Sv (I 319))) i).1 (gF (I 319) dp H (openS (Sv (I 319))) i).2.1) (24 - j) from fun q => h124 q.1)]; done)) (lI1 (by first | with_reducible rfl | with_reducible exact hD | (rw [dnV_s, if_pos (show (gP (I 319) dp i (gF (I 319) dp H (openS (Sv (I 319))) i).1 (gF (I 319) dp H (openS (Sv (I 319))) i).2.1) (24 - j) from And.intro h124 h150n)]; done) | (rw [dnV_s, if_neg (show ¬ (gP (I 319) dp i (gF (I 319) dp H (openS (Sv (I 319))) i).1 (gF (I 319) dp H (openS (Sv (I 319))) i).2.1) (24 - j) from fun q => h150 (by rw [q.2]))]; done) | (rw [dnV_s, if_neg (show ¬ (gP (I 319) dp i (gF (I 319) dp H (openS (Sv (I 319))) i).1 (gF (I 319) dp H (openS (Sv (I 319))) i).2.1) (24 - j) from fun q => h124 q.1)]; done)) (lI1 (by first | with_reducible rfl | with_reducible exact hD | (rw [dnV_s, if_pos (show (gP (I 319) dp i (gF (I 319) dp H (openS (Sv (I 319))) i).1 (gF (I 319) dp H (openS (Sv (I 319))) i).2.1) (24 - j) from And.intro h124 h150n)]; done) | (rw [dnV_s, if_neg (show ¬ (gP (I 319) dp i (gF (I 319) dp H (openS (Sv (I 319))) i).1 (gF (I 319) dp H (openS (Sv (I 319))) i).2.1) (24 - j) from fun q => h150 (by rw [q.2]))]; done) | (rw [dnV_s, if_neg (show ¬ (gP (I 319) dp i (gF (I 319) dp H (openS (Sv (I 319))) i).1 (gF (I 319) dp H (openS (Sv (I 319))) i).2.1) (24 - j) from fun q => h124 q.1)]; done)) (lI1 (by first | with_reducible rfl | with_reducible exact hD | (rw [dnV_s, if_pos (show (gP (I 319) dp i (gF (I 319) dp H (openS (Sv (I 319))) i).1 (gF (I 319) dp H (openS (Sv (I 319))) i).2.1) (24 - j) from And.intro h124 h150n)]; done) | (rw [dnV_s, if_neg (show ¬ (gP (I 319) dp i (gF (I 319) dp H (openS (Sv (I 319))) i).1 (gF (I 319) dp H (openS (Sv (I 319))) i).2.1) (24 - j) from fun q => h150 (by rw [q.2]))]; done) | (rw [dnV_s, if_neg (show ¬ (gP (I 319) dp i (gF (I 319) dp H (openS (Sv (I 319))) i).1 (gF (I 319) dp H (openS (Sv (I 319))) i).2.1) (24 - j) from fun q => h124 q.1)]; done)) (lI1 (by first | with_reducible rfl | with_reducible exact hD | (rw [dnV_s, if_pos (show (gP (I 319) dp i (gF (I 319) dp H (openS (Sv (I 319))) i).1 (gF (I 319) dp H (openS (Sv (I 319))) i).2.1) (24 - j) from And.intro h124 h150n)]; done) | (rw [dnV_s, if_neg (show ¬ (gP (I 319) dp i (gF (I 319) dp H (openS (Sv (I 319))) i).1 (gF (I 319) dp H (openS (Sv (I 319))) i).2.1) (24 - j) from fun q => h150 (by rw [q.2]))]; done) | (rw [dnV_s, if_neg (show ¬ (gP (I 319) dp i (gF (I 319) dp H (openS (Sv (I 319))) i).1 (gF (I 319) dp H (openS (Sv (I 319))) i).2.1) (24 - j) from fun q => h124 q.1)]; done)) rfl)))))))) rfl (by rfl)
              · intro h150
                have h150n := eq_nI h150 (by omega) (by omega)
                refine wp_iload7 (pc' := 155) rfl rfl ?_
                refine wp_istore5 (pc' := 157) rfl (by first | rfl | assumption) rfl ?_
                first | refine wp_iinc7 (w := (-1)) (pc' := 160) rfl rfl rfl (by with_reducible exact nI_sub1 (by omega)) rfl ?_ | refine wp_iinc7 (w := (-1)) (pc' := 160) rfl rfl rfl rfl rfl ?_
                refine wp_goto rfl ?_
                exact WP.cg (ihb (j + 1) _ (by omega)) (lC1 (lI1 (by first | with_reducible rfl | with_reducible exact hD | (rw [dnV_s, if_pos (show (gP (I 319) dp i (gF (I 319) dp H (openS (Sv (I 319))) i).1 (gF (I 319) dp H (openS (Sv (I 319))) i).2.1) (24 - j) from And.intro h124 h150n)]; done) | (rw [dnV_s, if_neg (show ¬ (gP (I 319) dp i (gF (I 319) dp H (openS (Sv (I 319))) i).1 (gF (I 319) dp H (openS (Sv (I 319))) i).2.1) (24 - j) from fun q => h150 (by rw [q.2]))]; done) | (rw [dnV_s, if_neg (show ¬ (gP (I 319) dp i (gF (I 319) dp H (openS (Sv (I 319))) i).1 (gF (I 319) dp H (openS (Sv (I 319))) i).2.1) (24 - j) from fun q => h124 q.1)]; done)) (lI1 (by first | with_reducible rfl | with_reducible exact hD | (rw [dnV_s, if_pos (show (gP (I 319) dp i (gF (I 319) dp H (openS (Sv (I 319))) i).1 (gF (I 319) dp H (openS (Sv (I 319))) i).2.1) (24 - j) from And.intro h124 h150n)]; done) | (rw [dnV_s, if_neg (show ¬ (gP (I 319) dp i (gF (I 319) dp H (openS (Sv (I 319))) i).1 (gF (I 319) dp H (openS (Sv (I 319))) i).2.1) (24 - j) from fun q => h150 (by rw [q.2]))]; done) | (rw [dnV_s, if_neg (show ¬ (gP (I 319) dp i (gF (I 319) dp H (openS (Sv (I 319))) i).1 (gF (I 319) dp H (openS (Sv (I 319))) i).2.1) (24 - j) from fun q => h124 q.1)]; done)) (lI1 (by first | with_reducible rfl | with_reducible exact hD | (rw [dnV_s, if_pos (show (gP (I 319) dp i (gF (I 319) dp H (openS (Sv (I 319))) i).1 (gF (I 319) dp H (openS (Sv (I 319))) i).2.1) (24 - j) from And.intro h124 h150n)]; done) | (rw [dnV_s, if_neg (show ¬ (gP (I 319) dp i (gF (I 319) dp H (openS (Sv (I 319))) i).1 (gF (I 319) dp H (openS (Sv (I 319))) i).2.1) (24 - j) from fun q => h150 (by rw [q.2]))]; done) | (rw [dnV_s, if_neg (show ¬ (gP (I 319) dp i (gF (I 319) dp H (openS (Sv (I 319))) i).1 (gF (I 319) dp H (openS (Sv (I 319))) i).2.1) (24 - j) from fun q => h124 q.1)]; done)) (lI1 (by first | with_reducible rfl | with_reducible exact hD | (rw [dnV_s, if_pos (show (gP (I 319) dp i (gF (I 319) dp H (openS (Sv (I 319))) i).1 (gF (I 319) dp H (openS (Sv (I 319))) i).2.1) (24 - j) from And.intro h124 h150n)]; done) | (rw [dnV_s, if_neg (show ¬ (gP (I 319) dp i (gF (I 319) dp H (openS (Sv (I 319))) i).1 (gF (I 319) dp H (openS (Sv (I 319))) i).2.1) (24 - j) from fun q => h150 (by rw [q.2]))]; done) | (rw [dnV_s, if_neg (show ¬ (gP (I 319) dp i (gF (I 319) dp H (openS (Sv (I 319))) i).1 (gF (I 319) dp H (openS (Sv (I 319))) i).2.1) (24 - j) from fun q => h124 q.1)]; done)) (lI1 (by first | with_reducible rfl | with_reducible exact hD | (rw [dnV_s, if_pos (show (gP (I 319) dp i (gF (I 319) dp H (openS (Sv (I 319))) i).1 (gF (I 319) dp H (openS (Sv (I 319))) i).2.1) (24 - j) from And.intro h124 h150n)]; done) | (rw [dnV_s, if_neg (show ¬ (gP (I 319) dp i (gF (I 319) dp H (openS (Sv (I 319))) i).1 (gF (I 319) dp H (openS (Sv (I 319))) i).2.1) (24 - j) from fun q => h150 (by rw [q.2]))]; done) | (rw [dnV_s, if_neg (show ¬ (gP (I 319) dp i (gF (I 319) dp H (openS (Sv (I 319))) i).1 (gF (I 319) dp H (openS (Sv (I 319))) i).2.1) (24 - j) from fun q => h124 q.1)]; done)) (lI1 (by first | with_reducible rfl | with_reducible exact hD | (rw [dnV_s, if_pos (show (gP (I 319) dp i (gF (I 319) dp H (openS (Sv (I 319))) i).1 (gF (I 319) dp H (openS (Sv (I 319))) i).2.1) (24 - j) from And.intro h124 h150n)]; done) | (rw [dnV_s, if_neg (show ¬ (gP (I 319) dp i (gF (I 319) dp H (openS (Sv (I 319))) i).1 (gF (I 319) dp H (openS (Sv (I 319))) i).2.1) (24 - j) from fun q => h150 (by rw [q.2]))]; done) | (rw [dnV_s, if_neg (show ¬ (gP (I 319) dp i (gF (I 319) dp H (openS (Sv (I 319))) i).1 (gF (I 319) dp H (openS (Sv (I 319))) i).2.1) (24 - j) from fun q => h124 q.1)]; done)) (lI1 (by first | with_reducible rfl | with_reducible exact hD | (rw [dnV_s, if_pos (show (gP (I 319) dp i (gF (I 319) dp H (openS (Sv (I 319))) i).1 (gF (I 319) dp H (openS (Sv (I 319))) i).2.1) (24 - j) from And.intro h124 h150n)]; done) | (rw [dnV_s, if_neg (show ¬ (gP (I 319) dp i (gF (I 319) dp H (openS (Sv (I 319))) i).1 (gF (I 319) dp H (openS (Sv (I 319))) i).2.1) (24 - j) from fun q => h150 (by rw [q.2]))]; done) | (rw [dnV_s, if_neg (show ¬ (gP (I 319) dp i (gF (I 319) dp H (openS (Sv (I 319))) i).1 (gF (I 319) dp H (openS (Sv (I 319))) i).2.1) (24 - j) from fun q => h124 q.1)]; done)) rfl)))))))) rfl (by rfl)
        exact WP.cg (lp105 (25 - (0)) (0) _ (by omega)) (lC1 (lI1 (by first | with_reducible rfl | decide | rfl) (lI1 (by first | with_reducible rfl | decide | rfl) (lI1 (by first | with_reducible rfl | decide | rfl) (lI1 (by first | with_reducible rfl | decide | rfl) (lI1 (by first | with_reducible rfl | decide | rfl) (lI1 (by first | with_reducible rfl | decide | rfl) (lI1 (by first | with_reducible rfl | decide | rfl) rfl)))))))) rfl (by rfl)
      · intro h95
        refine wp_goto rfl ?_
        first | refine wp_iinc6 (w := nI 1) (pc' := 187) rfl rfl rfl (by with_reducible exact nI_add _ _) rfl ?_ | refine wp_iinc6 (w := nI 1) (pc' := 187) rfl rfl rfl rfl rfl ?_
        refine wp_goto rfl ?_
        exact WP.cg (ih (i + 1) _ _ (by omega) (by first | rfl | assumption)) (lC1 (lI1 (by first | with_reducible rfl | (rw [gF_s, gSt, if_pos (eq_nI h95 (by have := dp_b hdp 25 (Nat.le_refl _) (gF (I 319) dp H (openS (Sv (I 319))) i).2.1 (clr (gF (I 319) dp H (openS (Sv (I 319))) i).1 i); omega) (by have := dp_b hdp 25 (Nat.le_refl _) (gF (I 319) dp H (openS (Sv (I 319))) i).2.1 (gF (I 319) dp H (openS (Sv (I 319))) i).1; omega))]; done) | (rw [gF_s, gSt, if_neg h95n]; done) | (rw [gF_s, gSt, if_pos (eq_nI h95 (by have := dp_b hdp 25 (Nat.le_refl _) (gF (I 319) dp H (openS (Sv (I 319))) i).2.1 (clr (gF (I 319) dp H (openS (Sv (I 319))) i).1 i); omega) (by have := dp_b hdp 25 (Nat.le_refl _) (gF (I 319) dp H (openS (Sv (I 319))) i).2.1 (gF (I 319) dp H (openS (Sv (I 319))) i).1; omega))]; exact h95.symm)) (lI1 (by first | with_reducible rfl | (rw [gF_s, gSt, if_pos (eq_nI h95 (by have := dp_b hdp 25 (Nat.le_refl _) (gF (I 319) dp H (openS (Sv (I 319))) i).2.1 (clr (gF (I 319) dp H (openS (Sv (I 319))) i).1 i); omega) (by have := dp_b hdp 25 (Nat.le_refl _) (gF (I 319) dp H (openS (Sv (I 319))) i).2.1 (gF (I 319) dp H (openS (Sv (I 319))) i).1; omega))]; done) | (rw [gF_s, gSt, if_neg h95n]; done) | (rw [gF_s, gSt, if_pos (eq_nI h95 (by have := dp_b hdp 25 (Nat.le_refl _) (gF (I 319) dp H (openS (Sv (I 319))) i).2.1 (clr (gF (I 319) dp H (openS (Sv (I 319))) i).1 i); omega) (by have := dp_b hdp 25 (Nat.le_refl _) (gF (I 319) dp H (openS (Sv (I 319))) i).2.1 (gF (I 319) dp H (openS (Sv (I 319))) i).1; omega))]; exact h95.symm)) (lI1 (by first | with_reducible rfl | (rw [gF_s, gSt, if_pos (eq_nI h95 (by have := dp_b hdp 25 (Nat.le_refl _) (gF (I 319) dp H (openS (Sv (I 319))) i).2.1 (clr (gF (I 319) dp H (openS (Sv (I 319))) i).1 i); omega) (by have := dp_b hdp 25 (Nat.le_refl _) (gF (I 319) dp H (openS (Sv (I 319))) i).2.1 (gF (I 319) dp H (openS (Sv (I 319))) i).1; omega))]; done) | (rw [gF_s, gSt, if_neg h95n]; done) | (rw [gF_s, gSt, if_pos (eq_nI h95 (by have := dp_b hdp 25 (Nat.le_refl _) (gF (I 319) dp H (openS (Sv (I 319))) i).2.1 (clr (gF (I 319) dp H (openS (Sv (I 319))) i).1 i); omega) (by have := dp_b hdp 25 (Nat.le_refl _) (gF (I 319) dp H (openS (Sv (I 319))) i).2.1 (gF (I 319) dp H (openS (Sv (I 319))) i).1; omega))]; exact h95.symm)) (lI1 (by first | with_reducible rfl | (rw [gF_s, gSt, if_pos (eq_nI h95 (by have := dp_b hdp 25 (Nat.le_refl _) (gF (I 319) dp H (openS (Sv (I 319))) i).2.1 (clr (gF (I 319) dp H (openS (Sv (I 319))) i).1 i); omega) (by have := dp_b hdp 25 (Nat.le_refl _) (gF (I 319) dp H (openS (Sv (I 319))) i).2.1 (gF (I 319) dp H (openS (Sv (I 319))) i).1; omega))]; done) | (rw [gF_s, gSt, if_neg h95n]; done) | (rw [gF_s, gSt, if_pos (eq_nI h95 (by have := dp_b hdp 25 (Nat.le_refl _) (gF (I 319) dp H (openS (Sv (I 319))) i).2.1 (clr (gF (I 319) dp H (openS (Sv (I 319))) i).1 i); omega) (by have := dp_b hdp 25 (Nat.le_refl _) (gF (I 319) dp H (openS (Sv (I 319))) i).2.1 (gF (I 319) dp H (openS (Sv (I 319))) i).1; omega))]; exact h95.symm)) (lI1 (by first | with_reducible rfl | (rw [gF_s, gSt, if_pos (eq_nI h95 (by have := dp_b hdp 25 (Nat.le_refl _) (gF (I 319) dp H (openS (Sv (I 319))) i).2.1 (clr (gF (I 319) dp H (openS (Sv (I 319))) i).1 i); omega) (by have := dp_b hdp 25 (Nat.le_refl _) (gF (I 319) dp H (openS (Sv (I 319))) i).2.1 (gF (I 319) dp H (openS (Sv (I 319))) i).1; omega))]; done) | (rw [gF_s, gSt, if_neg h95n]; done) | (rw [gF_s, gSt, if_pos (eq_nI h95 (by have := dp_b hdp 25 (Nat.le_refl _) (gF (I 319) dp H (openS (Sv (I 319))) i).2.1 (clr (gF (I 319) dp H (openS (Sv (I 319))) i).1 i); omega) (by have := dp_b hdp 25 (Nat.le_refl _) (gF (I 319) dp H (openS (Sv (I 319))) i).2.1 (gF (I 319) dp H (openS (Sv (I 319))) i).1; omega))]; exact h95.symm)) (lI1 (by first | with_reducible rfl | (rw [gF_s, gSt, if_pos (eq_nI h95 (by have := dp_b hdp 25 (Nat.le_refl _) (gF (I 319) dp H (openS (Sv (I 319))) i).2.1 (clr (gF (I 319) dp H (openS (Sv (I 319))) i).1 i); omega) (by have := dp_b hdp 25 (Nat.le_refl _) (gF (I 319) dp H (openS (Sv (I 319))) i).2.1 (gF (I 319) dp H (openS (Sv (I 319))) i).1; omega))]; done) | (rw [gF_s, gSt, if_neg h95n]; done) | (rw [gF_s, gSt, if_pos (eq_nI h95 (by have := dp_b hdp 25 (Nat.le_refl _) (gF (I 319) dp H (openS (Sv (I 319))) i).2.1 (clr (gF (I 319) dp H (openS (Sv (I 319))) i).1 i); omega) (by have := dp_b hdp 25 (Nat.le_refl _) (gF (I 319) dp H (openS (Sv (I 319))) i).2.1 (gF (I 319) dp H (openS (Sv (I 319))) i).1; omega))]; exact h95.symm)) (lC1 rfl)))))))) rfl (by rfl)
  exact WP.cg (lp69 ((hh + 1) - (0)) (0) _ _ (by omega) (by first | rfl | assumption)) (lC1 (lI1 (by first | with_reducible rfl | rfl) (lI1 (by first | with_reducible rfl | rfl) (lI1 (by first | with_reducible rfl | rfl) (lI1 (by first | with_reducible rfl | rfl) (lI1 (by first | with_reducible rfl | rfl) (lI1 (by first | with_reducible rfl | rfl) (lC1 rfl)))))))) rfl (by rfl)
theorem m_placedE {d : Nat} {K : Nat → Nat × Nat} {I : Nat → Nat → Int32} {L : Nat → Nat → Int64} {R : Nat → Nat → Option Nat} {n s : Nat} {Q : Lo → Lm → Prop} {H : Nat} {x : Int32} (hT : TK K R n) (hw : I 319 0 = nI H) (hH6 : H ≤ 6) (hx1 : ¬ x = -1) (hx : ¬ InR x H) (kk : Q (.inl (some (.int (nI 0)))) (K, up2 I 318 0 (nI 1), L, R, n, s)) : Ok (d + 5) 330 [.ref 318, .int x] (K, I, L, R, n, s) Q := by
  obtain ⟨-, -, hn⟩ := id hT
  refine Ok.enter (F := F_330) (ls := [.ref 318, .int x, lDead, lDead, lDead, lDead, lDead, lDead]) rfl rfl ?_
  refine wp_aload0 (pc' := 1) rfl rfl ?_
  refine wp_iconst (v := nI 0) (pc' := 2) rfl rfl rfl ?_
  refine wp_putI (pc' := 5) rfl rfl (by first | exact TK.k1 hT rfl | exact TK.kk hT rfl | exact TK.r hT rfl | assumption) (by omega) rfl ?_
  refine wp_aload0 (pc' := 6) rfl rfl ?_
  refine wp_iload1 (pc' := 7) rfl rfl ?_
  refine wp_iconst (v := (-1)) (pc' := 8) rfl rfl rfl ?_
  refine wp_icmpeqF (pc' := 11) rfl hx1 rfl ?_
  refine wp_aload0 (pc' := 12) rfl rfl ?_
  refine wp_iload1 (pc' := 13) rfl rfl ?_
  refine wp_callV2 (pc' := 16) rfl rfl rfl rfl rfl (by first | exact TK.k1 hT rfl | exact TK.kk hT rfl | exact TK.r hT rfl | assumption) rfl rfl ?_
  refine m_noH0 hT (by rw [up2_row (by decide)]; exact hw) hH6 hx ?_
  refine Cont.v ?_
  refine wp_ifeqF (pc' := 19) rfl (by decide) rfl ?_
  refine wp_iconst (v := nI 1) (pc' := 20) rfl rfl rfl ?_
  refine wp_goto rfl ?_
  refine wp_iconst (v := nI 1) (pc' := 25) rfl rfl rfl ?_
  refine wp_callV3 (pc' := 28) rfl rfl rfl rfl rfl (by first | exact TK.k1 hT rfl | exact TK.kk hT rfl | exact TK.r hT rfl | assumption) rfl rfl ?_
  refine m_tfY hT ?_
  refine Cont.v ?_
  refine wp_ifeqF (pc' := 31) rfl (by decide) rfl ?_
  refine wp_iconst (v := nI 0) (pc' := 32) rfl rfl rfl ?_
  refine wp_iret rfl rfl rfl ?_
  rw [up318]
  exact kk
