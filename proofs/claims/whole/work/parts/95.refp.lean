/-! THE REFERENCE: nets -/
theorem nand (a b : Nat) : nI a &&& nI b = nI (a &&& b) := by
  apply Int32.toBitVec_inj.1
  show BitVec.ofNat 32 a &&& BitVec.ofNat 32 b = BitVec.ofNat 32 (a &&& b)
  apply BitVec.eq_of_getLsbD_eq
  intro i hi
  simp [hi]
theorem sub16 : ∀ m : Fin 16, ∀ p : Fin 16, (p.1 &&& m.1) = p.1 → nI m.1 &&& (nI p.1 ^^^ (-1)) = nI (m.1 ^^^ p.1) ∧ (0 < p.1 → p.1 < m.1 → 0 < (m.1 ^^^ p.1) ∧ (m.1 ^^^ p.1) < m.1) := by decide +kernel
theorem prv16 : ∀ m : Fin 16, ∀ p : Fin 16, (p.1 &&& m.1) = p.1 → 0 < p.1 → ((p.1 - 1 &&& m.1) &&& m.1) = (p.1 - 1 &&& m.1) ∧ (p.1 - 1 &&& m.1) < p.1 ∧ ∀ q : Fin 16, (q.1 &&& m.1) = q.1 → q.1 < p.1 → q.1 ≤ (p.1 - 1 &&& m.1) := by decide +kernel
def lw4 (m : Nat) : Nat := if m % 2 = 1 then 0 else if m % 4 = 2 then 1 else if m % 8 = 4 then 2 else 3
theorem lw4_ok : ∀ m : Fin 16, 1 ≤ m.1 → lw4 m.1 < 4 ∧ (nI m.1 ^^^ (-1)) &&& (nI m.1 - nI 1) = nI (2 ^ lw4 m.1 - 1) ∧ ∀ T : Fin 5, m.1 < 2 ^ T.1 → lw4 m.1 < T.1 := by decide +kernel
theorem row_rd {q c : Nat} {w V : Nat → Int32} (hc : c < 25) : cpyO q 25 w V (q + c) = w c := by unfold cpyO; rw [if_pos (by omega), show q + c - q = c by omega]
theorem row_o {q j : Nat} {w V : Nat → Int32} (hj : j < q ∨ q + 25 ≤ j) : cpyO q 25 w V j = V j := by unfold cpyO; rw [if_neg (by omega)]
theorem row_up {q c : Nat} {w V : Nat → Int32} {x : Int32} (hc : c < 25) : up1 (cpyO q 25 w V) (q + c) x = cpyO q 25 (up1 w c x) V := by
  funext j
  unfold up1 cpyO
  by_cases h : j = q + c
  · rw [if_pos h, if_pos (show q ≤ j ∧ j < q + 25 by omega)]; exact (if_pos (show j - q = c by omega)).symm
  · rw [if_neg h]
    by_cases h2 : q ≤ j ∧ j < q + 25
    · rw [if_pos h2, if_pos h2]; exact (if_neg (show ¬ j - q = c by omega)).symm
    · rw [if_neg h2, if_neg h2]
theorem row_self {q : Nat} {V : Nat → Int32} : cpyO q 25 (fun c => V (q + c)) V = V := by
  funext j
  unfold cpyO
  by_cases h : q ≤ j ∧ j < q + 25
  · rw [if_pos h]; show V (q + (j - q)) = V j; rw [show q + (j - q) = j by omega]
  · rw [if_neg h]
theorem up1_self {w : Nat → Int32} {c : Nat} {x : Int32} (h : w c = x) : up1 w c x = w := by
  funext j
  unfold up1
  by_cases e : j = c
  · rw [if_pos e, e]; exact h.symm
  · rw [if_neg e]
theorem up1_up1 {w : Nat → Int32} {c : Nat} {x y : Int32} : up1 (up1 w c x) c y = up1 w c y := by
  funext j
  unfold up1
  by_cases e : j = c
  · rw [if_pos e, if_pos e]
  · rw [if_neg e, if_neg e, if_neg e]
/-- the least of a start and of what the parts beyond p give -/
def NstQ (b : Nat) (val : Nat → Nat) (m p x : Nat) : Prop := x ≤ b ∧ (∀ q, p < q → q < m → (q &&& m) = q → x ≤ val q) ∧ (x = b ∨ ∃ q, p < q ∧ q < m ∧ (q &&& m) = q ∧ x = val q)
theorem NstQ_0 {b m : Nat} {val : Nat → Nat} (hm : 1 ≤ m) (h16 : m < 16) : NstQ b val m (m - 1 &&& m) b := by
  have hx := prv16 ⟨m, h16⟩ ⟨m, h16⟩ (Nat.and_self m) hm
  dsimp only at hx
  refine ⟨Nat.le_refl _, fun q h1 h2 h3 => ?_, Or.inl rfl⟩
  have := hx.2.2 ⟨q, by omega⟩ h3 h2
  dsimp only at this
  omega
theorem NstQ_s {b m p x : Nat} {val : Nat → Nat} (h16 : m < 16) (hp0 : 0 < p) (hpm : p < m) (hs : (p &&& m) = p) (h : NstQ b val m p x) : NstQ b val m (p - 1 &&& m) (min x (val p)) := by
  have hx := prv16 ⟨m, h16⟩ ⟨p, by omega⟩ hs hp0
  dsimp only at hx
  obtain ⟨h1, h2, h3⟩ := h
  refine ⟨by omega, fun q q1 q2 q3 => ?_, ?_⟩
  · by_cases e : q = p
    · subst e; omega
    · by_cases e2 : q < p
      · have := hx.2.2 ⟨q, by omega⟩ q3 e2
        dsimp only at this
        omega
      · have := h2 q (by omega) q2 q3; omega
  · by_cases e : x ≤ val p
    · rw [Nat.min_eq_left e]
      rcases h3 with h3 | ⟨q, q1, q2, q3, q4⟩
      · exact Or.inl h3
      · exact Or.inr ⟨q, by omega, q2, q3, q4⟩
    · rw [Nat.min_eq_right (by omega)]
      exact Or.inr ⟨p, by omega, hpm, hs, rfl⟩
theorem NstQ_u {b m p x y : Nat} {val : Nat → Nat} (h : NstQ b val m p x) (g : NstQ b val m p y) : x = y := by
  obtain ⟨h1, h2, h3⟩ := h
  obtain ⟨g1, g2, g3⟩ := g
  have a : x ≤ y := by
    rcases g3 with g3 | ⟨q, q1, q2, q3, q4⟩
    · rw [g3]; exact h1
    · rw [q4]; exact h2 q q1 q2 q3
  have b : y ≤ x := by
    rcases h3 with h3 | ⟨q, q1, q2, q3, q4⟩
    · rw [h3]; exact g1
    · rw [q4]; exact g2 q q1 q2 q3
  omega
theorem ex_up {w : Nat → Int32} {i x : Nat} {P : Nat → Nat → Prop} (h : ∀ c, c < i → ∃ x, w c = nI x ∧ P c x) (hx : P i x) : ∀ c, c < i + 1 → ∃ y, up1 w i (nI x) c = nI y ∧ P c y := fun c hc => by
  by_cases e : c = i
  · subst e; exact ⟨x, up1_hit, hx⟩
  · obtain ⟨y, hy, hy2⟩ := h c (by omega); exact ⟨y, by rw [up1_ne e]; exact hy, hy2⟩
theorem rel_y {w2 : Nat → Int32} {b : Nat → Nat} {i j x : Nat} (hc : CoR w2 b) (hj : j < 25) (hx : x ≤ 100000000) : ∃ y, up1 w2 i (nI x) j = nI y ∧ y ≤ 100000000 ∧ (j ≠ i → y = b j) := by
  by_cases e : j = i
  · exact ⟨x, by rw [e, up1_hit], hx, fun q => absurd e q⟩
  · exact ⟨b j, by rw [up1_ne e]; exact (hc j hj).1, (hc j hj).2, fun _ => rfl⟩
def vlN (dr : Nat → Nat) (a : Nat → Nat → Nat) (m c q : Nat) : Nat := a q c + a (m ^^^ q) c - ditU dr c
def DrW (w : Nat → Int32) (dr : Nat → Nat) : Prop := ∀ q, q < 25 → w (9 + 6 * q + 2) = nI (dr q) ∧ dr q ≤ 1
/-- rows of nets below m, as numbers -/
def NtR (dr : Nat → Nat) (V : Nat → Int32) (a : Nat → Nat → Nat) (m : Nat) : Prop := ∀ p c, 1 ≤ p → p < m → c < 25 → V (25 * p + c) = nI (a p c) ∧ ditU dr c ≤ a p c ∧ a p c ≤ 100000000

theorem upr_id2 {f : Mem} {a : Nat} {g : Nat → Int32} (h : f a = g) : upr f a g = f := by rw [← h]; exact upr_id

theorem m_netAt {d : Nat} {K : Nat → Nat × Nat} {I : Nat → Nat → Int32} {L : Nat → Nat → Int64} {R : Nat → Nat → Option Nat} {n s : Nat} {Q : Lo → Lm → Prop} {k c : Nat}  (kk : Q (.inl (some (.int (nI (25 * k + c))))) (K, I, L, R, n, s)) : Ok (d + 1) 311 [.int (nI k), .int (nI c)] (K, I, L, R, n, s) Q := by
  refine Ok.enter (F := F_311) (ls := [.int (nI k), .int (nI c)]) rfl rfl ?_
  refine wp_bipush (v := nI 25) (pc' := 2) rfl rfl rfl ?_
  refine wp_iload0 (pc' := 3) rfl rfl ?_
  first | refine wp_imulN (pc' := 4) rfl (by with_reducible rfl) (by with_reducible rfl) rfl ?_ | refine wp_imul (pc' := 4) rfl rfl ?_
  refine wp_iload1 (pc' := 5) rfl rfl ?_
  first | refine wp_iaddN (pc' := 6) rfl (by with_reducible rfl) (by with_reducible rfl) rfl ?_ | refine wp_iadd (pc' := 6) rfl rfl ?_
  refine wp_iret rfl rfl rfl ?_
  exact kk
theorem m_joinsNets {d : Nat} {K : Nat → Nat × Nat} {I : Nat → Nat → Int32} {L : Nat → Nat → Int64} {R : Nat → Nat → Option Nat} {n s : Nat} {Q : Lo → Lm → Prop} {m : Nat} {dr b : Nat → Nat} {a : Nat → Nat → Nat} {V : Nat → Int32} (hT : TK K R n) (hV : I 329 = V) (hm1 : 1 ≤ m) (hm16 : m < 16) (hdr : DrW (I 319) dr) (hvr : NtR dr V a m) (hvb : ∀ c, c < 25 → V (25 * m + c) = nI (b c) ∧ b c ≤ 100000000) (kk : ∀ w, (∀ c, c < 25 → ∃ x, w c = nI x ∧ NstQ (b c) (vlN dr a m c) m 0 x) → Q (.inl none) (K, upr I 329 (cpyO (25 * m) 25 w V), L, R, n, s)) : Ok (d + 3) 312 [.ref 318, .int (nI m)] (K, I, L, R, n, s) Q := by
  obtain ⟨-, -, hn⟩ := id hT
  refine Ok.enter (F := F_312) (ls := [.ref 318, .int (nI m), lDead, lDead, lDead, lDead]) rfl rfl ?_
  refine wp_iconst (v := nI 0) (pc' := 1) rfl rfl rfl ?_
  refine wp_istore2 (pc' := 2) rfl (by first | rfl | assumption) rfl ?_
  have lp2 : ∀ r (i : Nat) (w : Nat → Int32) (v3 : Value) (v4 : Value) (v5 : Value), i + r = 25 → (∀ c, c < i → ∃ x, w c = nI x ∧ NstQ (b c) (vlN dr a m c) m 0 x) → (∀ c, i ≤ c → c < 25 → w c = nI (b c)) → isL v3 = false → isL v4 = false → isL v5 = false → WP (d + 2) F_312 2 [.ref 318, .int (nI m), .int (nI i), v3, v4, v5] [] (K, upr I 329 (cpyO (25 * m) 25 w V), L, R, n, s) Q := by
    intro r; induction r with
    | zero =>
      intro i w v3 v4 v5 hi hv0 hv1 hv2 hv3 hv4
      have hi2 : i = 25 := by omega
      subst hi2
      refine wp_iload2 (pc' := 3) rfl rfl ?_
      refine wp_bipush (v := nI 25) (pc' := 5) rfl rfl rfl ?_
      refine wp_icmpgeT rfl (nI_nlt (by omega) (by omega)) ?_
      refine wp_vret rfl rfl ?_
      exact kk w (fun c hc => hv0 c hc)
    | succ r ih =>
      intro i w v3 v4 v5 hi hv0 hv1 hv2 hv3 hv4
      have hlt : i < 25 := by omega
      have hd1 := (hdr i (by omega)).2
      have hb1 := (hvb i (by omega)).2
      refine wp_iload2 (pc' := 3) rfl rfl ?_
      refine wp_bipush (v := nI 25) (pc' := 5) rfl rfl rfl ?_
      refine wp_icmpgeF (pc' := 8) rfl (nI_lt (by omega) (by omega)) rfl ?_
      refine wp_iconst (v := nI 1) (pc' := 9) rfl rfl rfl ?_
      refine wp_aload0 (pc' := 10) rfl rfl ?_
      refine wp_iload2 (pc' := 11) rfl rfl ?_
      refine wp_iconst (v := nI 2) (pc' := 12) rfl rfl rfl ?_
      refine wp_callV3 (pc' := 15) rfl rfl rfl rfl rfl (by first | exact TK.k1 hT rfl | exact TK.kk hT rfl | exact TK.r hT rfl | assumption) rfl rfl ?_
      refine m_of hT (by omega) (by decide) ?_
      rw [upr_ne (show (319 : Nat) ≠ 329 by decide), (hdr _ (by omega)).1]
      refine Cont.v ?_
      first | refine wp_isubN (pc' := 16) rfl (by with_reducible rfl) (by with_reducible rfl) (by omega) rfl ?_ | refine wp_isub (pc' := 16) rfl rfl ?_
      refine wp_istore3 (pc' := 17) rfl (by first | rfl | assumption) rfl ?_
      refine wp_aload0 (pc' := 18) rfl rfl ?_
      refine wp_getRF (pc' := 21) rfl rfl (by first | exact TK.k1 hT rfl | exact TK.kk hT rfl | exact TK.r hT rfl | assumption) (by first | exact TK.k1 hT rfl | exact TK.kk hT rfl | exact TK.r hT rfl | assumption) rfl ?_
      refine wp_iload1 (pc' := 22) rfl rfl ?_
      refine wp_iload2 (pc' := 23) rfl rfl ?_
      refine wp_callS2 (pc' := 26) rfl rfl rfl rfl rfl rfl ?_
      refine m_netAt ?_
      refine Cont.v ?_
      refine wp_iald _ (pc' := 27) rfl (by first | exact TK.k1 hT rfl | exact TK.kk hT rfl | exact TK.r hT rfl | assumption) (by with_reducible rfl) (by omega) (by first | decide | assumption | omega) rfl ?_
      rw [upr_same, row_rd (by omega), hv1 i (by omega) (by omega)]
      refine wp_istore4 (pc' := 29) rfl (by first | rfl | assumption) rfl ?_
      refine wp_iload1 (pc' := 30) rfl rfl ?_
      refine wp_iconst (v := nI 1) (pc' := 31) rfl rfl rfl ?_
      first | refine wp_isubN (pc' := 32) rfl (by with_reducible rfl) (by with_reducible rfl) (by omega) rfl ?_ | refine wp_isub (pc' := 32) rfl rfl ?_
      refine wp_iload1 (pc' := 33) rfl rfl ?_
      refine wp_iand (pc' := 34) rfl rfl ?_
      rw [nand]
      refine wp_istore5 (pc' := 36) rfl (by first | rfl | assumption) rfl ?_
      have lp36 : ∀ rb (p x : Nat), p ≤ rb → p < m → (p &&& m) = p → NstQ (b i) (vlN dr a m i) m p x → WP (d + 2) F_312 36 [.ref 318, .int (nI m), .int (nI i), .int (nI (ditU dr i)), .int (nI x), .int (nI p)] [] (K, upr I 329 (cpyO (25 * m) 25 w V), L, R, n, s) Q := by
        intro rb; induction rb with
        | zero =>
          intro p x hib hvb0 hvb1 hvb2
          have hp0 : p = 0 := by omega
          subst hp0
          refine wp_iload5 (pc' := 38) rfl rfl ?_
          refine wp_ifleT rfl (by decide) ?_
          have hq0 : NstQ (b i) (vlN dr a m i) m 0 x := by first | exact hvb2 | (rw [show p = 0 from Nat.eq_zero_of_not_pos (fun q => h38 (nI_lt q (by omega)))] at hvb2; exact hvb2)
          refine wp_aload0 (pc' := 89) rfl rfl ?_
          refine wp_getRF (pc' := 92) rfl rfl (by first | exact TK.k1 hT rfl | exact TK.kk hT rfl | exact TK.r hT rfl | assumption) (by first | exact TK.k1 hT rfl | exact TK.kk hT rfl | exact TK.r hT rfl | assumption) rfl ?_
          refine wp_iload1 (pc' := 93) rfl rfl ?_
          refine wp_iload2 (pc' := 94) rfl rfl ?_
          refine wp_callS2 (pc' := 97) rfl rfl rfl rfl rfl rfl ?_
          refine m_netAt ?_
          refine Cont.v ?_
          refine wp_iload4 (pc' := 99) rfl rfl ?_
          refine wp_iast _ (pc' := 100) rfl (by first | exact TK.k1 hT rfl | exact TK.kk hT rfl | exact TK.r hT rfl | assumption) (by omega) (by with_reducible rfl) (by omega) (by first | decide | assumption | omega) rfl ?_
          first | refine wp_iinc2 (w := nI 1) (pc' := 103) rfl rfl rfl (by with_reducible exact nI_add _ _) rfl ?_ | refine wp_iinc2 (w := nI 1) (pc' := 103) rfl rfl rfl rfl rfl ?_
          refine wp_goto rfl ?_
          exact WP.cg (ih (i + 1) (up1 w i (nI x)) _ _ _ (by omega) (ex_up (P := fun c x => NstQ (b c) (vlN dr a m c) m 0 x) hv0 hq0) (fun c hc1 hc2 => by rw [up1_ne (by omega)]; exact hv1 c (by omega) hc2) (by first | rfl | assumption) (by first | rfl | assumption) (by first | rfl | assumption)) (lC1 (lI1 (by rfl) (lI1 (by rfl) (lC1 (lC1 (lC1 rfl)))))) rfl (by rw [up2_upr, row_up (by omega)])
        | succ rb ihb =>
          intro p x hib hvb0 hvb1 hvb2
          refine wp_iload5 (pc' := 38) rfl rfl ?_
          refine wp_ifle (pc' := 41) rfl rfl ?_ ?_
          · intro h38
            have hq0 : NstQ (b i) (vlN dr a m i) m 0 x := by first | exact hvb2 | (rw [show p = 0 from Nat.eq_zero_of_not_pos (fun q => h38 (nI_lt q (by omega)))] at hvb2; exact hvb2)
            refine wp_aload0 (pc' := 89) rfl rfl ?_
            refine wp_getRF (pc' := 92) rfl rfl (by first | exact TK.k1 hT rfl | exact TK.kk hT rfl | exact TK.r hT rfl | assumption) (by first | exact TK.k1 hT rfl | exact TK.kk hT rfl | exact TK.r hT rfl | assumption) rfl ?_
            refine wp_iload1 (pc' := 93) rfl rfl ?_
            refine wp_iload2 (pc' := 94) rfl rfl ?_
            refine wp_callS2 (pc' := 97) rfl rfl rfl rfl rfl rfl ?_
            refine m_netAt ?_
            refine Cont.v ?_
            refine wp_iload4 (pc' := 99) rfl rfl ?_
            refine wp_iast _ (pc' := 100) rfl (by first | exact TK.k1 hT rfl | exact TK.kk hT rfl | exact TK.r hT rfl | assumption) (by omega) (by with_reducible rfl) (by omega) (by first | decide | assumption | omega) rfl ?_
            first | refine wp_iinc2 (w := nI 1) (pc' := 103) rfl rfl rfl (by with_reducible exact nI_add _ _) rfl ?_ | refine wp_iinc2 (w := nI 1) (pc' := 103) rfl rfl rfl rfl rfl ?_
            refine wp_goto rfl ?_
            exact WP.cg (ih (i + 1) (up1 w i (nI x)) _ _ _ (by omega) (ex_up (P := fun c x => NstQ (b c) (vlN dr a m c) m 0 x) hv0 hq0) (fun c hc1 hc2 => by rw [up1_ne (by omega)]; exact hv1 c (by omega) hc2) (by first | rfl | assumption) (by first | rfl | assumption) (by first | rfl | assumption)) (lC1 (lI1 (by rfl) (lI1 (by rfl) (lC1 (lC1 (lC1 rfl)))))) rfl (by rw [up2_upr, row_up (by omega)])
          · intro h38
            have hxb := hvb2.1
            have hp0 := nI_lt_inv (by omega) (by omega) h38
            have hsx := sub16 ⟨m, hm16⟩ ⟨p, by omega⟩ hvb1
            dsimp only at hsx
            have b1 := hvr p i hp0 hvb0 (by omega)
            have b2 := hvr (m ^^^ p) i (hsx.2 hp0 hvb0).1 (hsx.2 hp0 hvb0).2 (by omega)
            refine wp_iload4 (pc' := 43) rfl rfl ?_
            refine wp_aload0 (pc' := 44) rfl rfl ?_
            refine wp_getRF (pc' := 47) rfl rfl (by first | exact TK.k1 hT rfl | exact TK.kk hT rfl | exact TK.r hT rfl | assumption) (by first | exact TK.k1 hT rfl | exact TK.kk hT rfl | exact TK.r hT rfl | assumption) rfl ?_
            refine wp_iload5 (pc' := 49) rfl rfl ?_
            refine wp_iload2 (pc' := 50) rfl rfl ?_
            refine wp_callS2 (pc' := 53) rfl rfl rfl rfl rfl rfl ?_
            refine m_netAt ?_
            refine Cont.v ?_
            refine wp_iald _ (pc' := 54) rfl (by first | exact TK.k1 hT rfl | exact TK.kk hT rfl | exact TK.r hT rfl | assumption) (by with_reducible rfl) (by omega) (by first | decide | assumption | omega) rfl ?_
            rw [upr_same, row_o (by omega), (hvr p i hp0 hvb0 (by omega)).1]
            refine wp_aload0 (pc' := 55) rfl rfl ?_
            refine wp_getRF (pc' := 58) rfl rfl (by first | exact TK.k1 hT rfl | exact TK.kk hT rfl | exact TK.r hT rfl | assumption) (by first | exact TK.k1 hT rfl | exact TK.kk hT rfl | exact TK.r hT rfl | assumption) rfl ?_
            refine wp_iload1 (pc' := 59) rfl rfl ?_
            refine wp_iload5 (pc' := 61) rfl rfl ?_
            refine wp_iconst (v := (-1)) (pc' := 62) rfl rfl rfl ?_
            refine wp_ixor (pc' := 63) rfl rfl ?_
            refine wp_iand (pc' := 64) rfl rfl ?_
            rw [hsx.1]
            refine wp_iload2 (pc' := 65) rfl rfl ?_
            refine wp_callS2 (pc' := 68) rfl rfl rfl rfl rfl rfl ?_
            refine m_netAt ?_
            refine Cont.v ?_
            refine wp_iald _ (pc' := 69) rfl (by first | exact TK.k1 hT rfl | exact TK.kk hT rfl | exact TK.r hT rfl | assumption) (by with_reducible rfl) (by omega) (by first | decide | assumption | omega) rfl ?_
            rw [upr_same, row_o (by omega), (hvr (m ^^^ p) i (hsx.2 hp0 hvb0).1 (hsx.2 hp0 hvb0).2 (by omega)).1]
            first | refine wp_iaddN (pc' := 70) rfl (by with_reducible rfl) (by with_reducible rfl) rfl ?_ | refine wp_iadd (pc' := 70) rfl rfl ?_
            refine wp_iload3 (pc' := 71) rfl rfl ?_
            first | refine wp_isubN (pc' := 72) rfl (by with_reducible rfl) (by with_reducible rfl) (by omega) rfl ?_ | refine wp_isub (pc' := 72) rfl rfl ?_
            refine wp_min (pc' := 75) rfl rfl rfl rfl ?_
            rw [nI_min (by omega) (by omega)]
            refine wp_istore4 (pc' := 77) rfl (by first | rfl | assumption) rfl ?_
            refine wp_iload5 (pc' := 79) rfl rfl ?_
            refine wp_iconst (v := nI 1) (pc' := 80) rfl rfl rfl ?_
            first | refine wp_isubN (pc' := 81) rfl (by with_reducible rfl) (by with_reducible rfl) (by omega) rfl ?_ | refine wp_isub (pc' := 81) rfl rfl ?_
            refine wp_iload1 (pc' := 82) rfl rfl ?_
            refine wp_iand (pc' := 83) rfl rfl ?_
            rw [nand]
            refine wp_istore5 (pc' := 85) rfl (by first | rfl | assumption) rfl ?_
            refine wp_goto rfl ?_
            exact WP.cg (ihb (p - 1 &&& m) (min x (vlN dr a m i p)) (by have := (prv16 ⟨m, hm16⟩ ⟨p, by omega⟩ hvb1 hp0).2.1; dsimp only at this; omega) (by have := (prv16 ⟨m, hm16⟩ ⟨p, by omega⟩ hvb1 hp0).2.1; dsimp only at this; omega) (prv16 ⟨m, hm16⟩ ⟨p, by omega⟩ hvb1 hp0).1 (NstQ_s hm16 hp0 hvb0 hvb1 hvb2)) (lC1 (lI1 (by first | with_reducible rfl | rfl) (lI1 (by first | with_reducible rfl | rfl) (lI1 (by first | with_reducible rfl | rfl) (lI1 (by first | with_reducible rfl | rfl) (lI1 (by first | with_reducible rfl | rfl) rfl)))))) rfl (by rfl)
      exact WP.cg (lp36 16 (m - 1 &&& m) (b i) (by have := (prv16 ⟨m, hm16⟩ ⟨m, hm16⟩ (Nat.and_self m) hm1).2.1; dsimp only at this; omega) (by have := (prv16 ⟨m, hm16⟩ ⟨m, hm16⟩ (Nat.and_self m) hm1).2.1; dsimp only at this; omega) (prv16 ⟨m, hm16⟩ ⟨m, hm16⟩ (Nat.and_self m) hm1).1 (NstQ_0 hm1 hm16)) (lC1 (lI1 (by rfl) (lI1 (by rfl) (lI1 (by rfl) (lI1 (by rfl) (lI1 (by rfl) rfl)))))) rfl (by rfl)
  exact WP.cg (lp2 (25 - (0)) (0) (fun c => V (25 * m + c)) _ _ _ (by omega) (fun c hc => absurd hc (Nat.not_lt_zero c)) (fun c _ hc => (hvb c hc).1) (by first | rfl | assumption) (by first | rfl | assumption) (by first | rfl | assumption)) (lC1 (lI1 (by rfl) (lI1 (by rfl) (lC1 (lC1 (lC1 rfl)))))) rfl (by rw [row_self, upr_id2 hV])
theorem bes_self : ∀ c : Fin 25, ¬ hasP (besB c.1) c.1 := by decide +kernel
theorem flg {e : Bool} {p q : Prop} [Decidable p] [Decidable q] (h : p ↔ q) : (if (e || decide p) = true then nI 1 else nI 0) = if (e || decide q) = true then nI 1 else nI 0 := by
  by_cases hq : q
  · rw [decide_eq_true hq, decide_eq_true (h.mpr hq)]
  · rw [decide_eq_false hq, decide_eq_false (fun z => hq (h.mp z))]

theorem m_spreadsNets {d : Nat} {K : Nat → Nat × Nat} {I : Nat → Nat → Int32} {L : Nat → Nat → Int64} {R : Nat → Nat → Option Nat} {n s : Nat} {Q : Lo → Lm → Prop} {m : Nat} {dr st : Nat → Nat} {V w0 : Nat → Int32} (hT : TK K R n) (hm16 : m < 16) (hdr : DrW (I 319) dr) (hw0 : CoR w0 st) (kk : ∀ a w, FixI st (ditU dr) a → CoR w a → Q (.inl none) (K, upr I 329 (cpyO (25 * m) 25 w V), L, R, n, s)) : Ok (d + 3) 313 [.ref 318, .int (nI m)] (K, upr I 329 (cpyO (25 * m) 25 w0 V), L, R, n, s) Q := by
  obtain ⟨-, -, hn⟩ := id hT
  refine Ok.enter (F := F_313) (ls := [.ref 318, .int (nI m), lDead, lDead, lDead, lDead]) rfl rfl ?_
  refine wp_iconst (v := nI 1) (pc' := 1) rfl rfl rfl ?_
  refine wp_istore2 (pc' := 2) rfl (by first | rfl | assumption) rfl ?_
  have lp2 : ∀ r (w : Nat → Int32) (a : Nat → Nat) (f : Bool) (v3 : Value) (v4 : Value) (v5 : Value), sNt a 25 + (if f = true then 1 else 0) ≤ r → OutI st (ditU dr) w a → (f = false → Adm st (ditU dr) a) → isL v3 = false → isL v4 = false → isL v5 = false → WP (d + 2) F_313 2 [.ref 318, .int (nI m), .int (if f = true then nI 1 else nI 0), v3, v4, v5] [] (K, upr I 329 (cpyO (25 * m) 25 w V), L, R, n, s) Q := by
    intro r; induction r with
    | zero =>
      intro w a f v3 v4 v5 hi hv0 hv1 hv2 hv3 hv4
      obtain rfl : f = false := by cases f; rfl; exact absurd hi (by rw [if_pos rfl]; omega)
      refine wp_iload2 (pc' := 3) rfl rfl ?_
      refine wp_ifeqT rfl rfl ?_
      refine wp_vret rfl rfl ?_
      first | exact kk a w ⟨hv1 rfl, hv0.2.1⟩ hv0.1 | exact kk a w ⟨hv1 (Bool.eq_false_iff.mpr h3), hv0.2.1⟩ hv0.1
    | succ r ih =>
      intro w a f v3 v4 v5 hi hv0 hv1 hv2 hv3 hv4
      refine wp_iload2 (pc' := 3) rfl rfl ?_
      first | refine wp_ifeqB (pc' := 6) rfl rfl ?_ ?_ | refine wp_ifeq (pc' := 6) rfl rfl ?_ ?_
      · intro h3
        refine wp_vret rfl rfl ?_
        first | exact kk a w ⟨hv1 rfl, hv0.2.1⟩ hv0.1 | exact kk a w ⟨hv1 (Bool.eq_false_iff.mpr h3), hv0.2.1⟩ hv0.1
      · intro h3
        refine wp_iconst (v := nI 0) (pc' := 7) rfl rfl rfl ?_
        refine wp_istore2 (pc' := 8) rfl (by first | rfl | assumption) rfl ?_
        refine wp_iconst (v := nI 0) (pc' := 9) rfl rfl rfl ?_
        refine wp_istore3 (pc' := 10) rfl (by first | rfl | assumption) rfl ?_
        have lp10 : ∀ rb (i : Nat) (w2 : Nat → Int32) (b : Nat → Nat) (e : Bool) (v4 : Value) (v5 : Value), i + rb = 25 → PasI st (ditU dr) a i w2 b e → isL v4 = false → isL v5 = false → WP (d + 2) F_313 10 [.ref 318, .int (nI m), .int (if e = true then nI 1 else nI 0), .int (nI i), v4, v5] [] (K, upr I 329 (cpyO (25 * m) 25 w2 V), L, R, n, s) Q := by
          intro rb; induction rb with
          | zero =>
            intro i w2 b e v4 v5 hib hvb0 hvb1 hvb2
            have hi2b : i = 25 := by omega
            subst hi2b
            refine wp_iload3 (pc' := 11) rfl rfl ?_
            refine wp_bipush (v := nI 25) (pc' := 13) rfl rfl rfl ?_
            refine wp_icmpgeT rfl (nI_nlt (by omega) (by omega)) ?_
            refine wp_goto rfl ?_
            exact WP.cg (ih w2 b e _ _ _ (by have := (PasI_end hvb0).2.2; rw [if_pos h3] at hi; omega) (PasI_end hvb0).1 (PasI_end hvb0).2.1 (by first | rfl | assumption) (by first | rfl | assumption) (by first | rfl | assumption)) (lC1 (lI1 (by rfl) (lI1 (by rfl) (lC1 (lC1 (lC1 rfl)))))) rfl (by rfl)
          | succ rb ihb =>
            intro i w2 b e v4 v5 hib hvb0 hvb1 hvb2
            have hltb : i < 25 := by omega
            have hd1 := (hdr i (by omega)).2
            have hcr := hvb0.1.1
            refine wp_iload3 (pc' := 11) rfl rfl ?_
            refine wp_bipush (v := nI 25) (pc' := 13) rfl rfl rfl ?_
            refine wp_icmpgeF (pc' := 16) rfl (nI_lt (by omega) (by omega)) rfl ?_
            refine wp_iconst (v := nI 0) (pc' := 17) rfl rfl rfl ?_
            refine wp_istore4 (pc' := 19) rfl (by first | rfl | assumption) rfl ?_
            have lp19 : ∀ rc (j : Nat) (v5 : Value), j + rc = 25 → isL v5 = false → WP (d + 2) F_313 19 [.ref 318, .int (nI m), .int (if (e || decide ((lesN b (ditU dr i) i j) < b i)) = true then nI 1 else nI 0), .int (nI i), .int (nI j), v5] [] (K, upr I 329 (cpyO (25 * m) 25 (up1 w2 i (nI (lesN b (ditU dr i) i j))) V), L, R, n, s) Q := by
              intro rc; induction rc with
              | zero =>
                intro j v5 hic hvc0
                have hi2c : j = 25 := by omega
                subst hi2c
                refine wp_iload4 (pc' := 21) rfl rfl ?_
                refine wp_bipush (v := nI 25) (pc' := 23) rfl rfl rfl ?_
                refine wp_icmpgeT rfl (nI_nlt (by omega) (by omega)) ?_
                first | refine wp_iinc3 (w := nI 1) (pc' := 101) rfl rfl rfl (by with_reducible exact nI_add _ _) rfl ?_ | refine wp_iinc3 (w := nI 1) (pc' := 101) rfl rfl rfl rfl rfl ?_
                refine wp_goto rfl ?_
                exact WP.cg (ihb (i + 1) _ _ _ _ _ (by omega) (PasI_s (by omega) hvb0) (by first | rfl | assumption) (by first | rfl | assumption)) (lC1 (lI1 (by first | with_reducible rfl | rfl) (lI1 (by first | with_reducible rfl | rfl) (lI1 (by first | with_reducible rfl | rfl) (lC1 (lC1 rfl)))))) rfl (by rfl)
              | succ rc ihc =>
                intro j v5 hic hvc0
                have hltc : j < 25 := by omega
                have hcj := hcr j (by omega)
                have hci := hcr i (by omega)
                have hle := lesN_le (a := b) (u := ditU dr i) (c := i) j
                have hdu : ditU dr i = 1 - dr i := rfl
                refine wp_iload4 (pc' := 21) rfl rfl ?_
                refine wp_bipush (v := nI 25) (pc' := 23) rfl rfl rfl ?_
                refine wp_icmpgeF (pc' := 26) rfl (nI_lt (by omega) (by omega)) rfl ?_
                refine wp_aload0 (pc' := 27) rfl rfl ?_
                refine wp_getRF (pc' := 30) rfl rfl (by first | exact TK.k1 hT rfl | exact TK.kk hT rfl | exact TK.r hT rfl | assumption) (by first | exact TK.k1 hT rfl | exact TK.kk hT rfl | exact TK.r hT rfl | assumption) rfl ?_
                refine wp_iload1 (pc' := 31) rfl rfl ?_
                refine wp_iload4 (pc' := 33) rfl rfl ?_
                refine wp_callS2 (pc' := 36) rfl rfl rfl rfl rfl rfl ?_
                refine m_netAt ?_
                refine Cont.v ?_
                refine wp_iald _ (pc' := 37) rfl (by first | exact TK.k1 hT rfl | exact TK.kk hT rfl | exact TK.r hT rfl | assumption) (by with_reducible rfl) (by omega) (by first | decide | assumption | omega) rfl ?_
                rw [upr_same, row_rd (by omega)]
                obtain ⟨y, hy, hyb, hyj⟩ := rel_y (i := i) hcr (show j < 25 by omega) (show (lesN b (ditU dr i) i j) ≤ 100000000 by omega)
                rw [hy]
                refine wp_iconst (v := nI 1) (pc' := 38) rfl rfl rfl ?_
                first | refine wp_iaddN (pc' := 39) rfl (by with_reducible rfl) (by with_reducible rfl) rfl ?_ | refine wp_iadd (pc' := 39) rfl rfl ?_
                refine wp_aload0 (pc' := 40) rfl rfl ?_
                refine wp_iload3 (pc' := 41) rfl rfl ?_
                refine wp_iconst (v := nI 2) (pc' := 42) rfl rfl rfl ?_
                refine wp_callV3 (pc' := 45) rfl rfl rfl rfl rfl (by first | exact TK.k1 hT rfl | exact TK.kk hT rfl | exact TK.r hT rfl | assumption) rfl rfl ?_
                refine m_of hT (by omega) (by decide) ?_
                rw [upr_ne (show (319 : Nat) ≠ 329 by decide), (hdr _ (by omega)).1]
                refine Cont.v ?_
                first | refine wp_isubN (pc' := 46) rfl (by with_reducible rfl) (by with_reducible rfl) (by omega) rfl ?_ | refine wp_isub (pc' := 46) rfl rfl ?_
                refine wp_istore5 (pc' := 48) rfl (by first | rfl | assumption) rfl ?_
                refine wp_iload3 (pc' := 49) rfl rfl ?_
                refine wp_callS1 (pc' := 52) rfl rfl rfl rfl rfl rfl ?_
                refine m_beside (by omega) ?_
                refine Cont.v ?_
                refine wp_iload4 (pc' := 54) rfl rfl ?_
                refine wp_callS2 (pc' := 57) rfl rfl rfl rfl rfl rfl ?_
                refine m_has ?_
                refine Cont.v ?_
                first | refine wp_ifeqB (pc' := 60) rfl rfl ?_ ?_ | refine wp_ifeq (pc' := 60) rfl rfl ?_ ?_
                · intro h57
                  first | refine wp_iinc4 (w := nI 1) (pc' := 95) rfl rfl rfl (by with_reducible exact nI_add _ _) rfl ?_ | refine wp_iinc4 (w := nI 1) (pc' := 95) rfl rfl rfl rfl rfl ?_
                  refine wp_goto rfl ?_
                  exact WP.cg (ihc (j + 1) _ (by omega) (by first | rfl | assumption)) (lC1 (lI1 (by first | with_reducible rfl | (rw [lesN_s, if_pos h57, Nat.min_eq_right (by omega), decide_eq_true (show b j + ditU dr i < b i by omega), Bool.or_true] <;> rfl) | (rw [lesN_s, if_pos h57, Nat.min_eq_left (by omega)]; done) | (rw [lesN_s, if_neg h57]; done)) (lI1 (by first | with_reducible rfl | (rw [lesN_s, if_pos h57, Nat.min_eq_right (by omega), decide_eq_true (show b j + ditU dr i < b i by omega), Bool.or_true] <;> rfl) | (rw [lesN_s, if_pos h57, Nat.min_eq_left (by omega)]; done) | (rw [lesN_s, if_neg h57]; done)) (lI1 (by first | with_reducible rfl | (rw [lesN_s, if_pos h57, Nat.min_eq_right (by omega), decide_eq_true (show b j + ditU dr i < b i by omega), Bool.or_true] <;> rfl) | (rw [lesN_s, if_pos h57, Nat.min_eq_left (by omega)]; done) | (rw [lesN_s, if_neg h57]; done)) (lI1 (by first | with_reducible rfl | (rw [lesN_s, if_pos h57, Nat.min_eq_right (by omega), decide_eq_true (show b j + ditU dr i < b i by omega), Bool.or_true] <;> rfl) | (rw [lesN_s, if_pos h57, Nat.min_eq_left (by omega)]; done) | (rw [lesN_s, if_neg h57]; done)) (lC1 rfl)))))) rfl (by first | (rw [up2_upr, row_up (by omega), up1_up1, lesN_s, if_pos h57, Nat.min_eq_right (by omega)] <;> rfl) | (rw [lesN_s, if_pos h57, Nat.min_eq_left (by omega)]; done) | (rw [lesN_s, if_neg h57]; done))
                · intro h57
                  have hji : j ≠ i := fun q => bes_self ⟨i, by omega⟩ (by rw [q] at h57; exact h57)
                  have hyb2 := hyj hji
                  subst hyb2
                  rw [show b j + 1 - dr i = b j + ditU dr i by omega]
                  refine wp_iload5 (pc' := 62) rfl rfl ?_
                  refine wp_aload0 (pc' := 63) rfl rfl ?_
                  refine wp_getRF (pc' := 66) rfl rfl (by first | exact TK.k1 hT rfl | exact TK.kk hT rfl | exact TK.r hT rfl | assumption) (by first | exact TK.k1 hT rfl | exact TK.kk hT rfl | exact TK.r hT rfl | assumption) rfl ?_
                  refine wp_iload1 (pc' := 67) rfl rfl ?_
                  refine wp_iload3 (pc' := 68) rfl rfl ?_
                  refine wp_callS2 (pc' := 71) rfl rfl rfl rfl rfl rfl ?_
                  refine m_netAt ?_
                  refine Cont.v ?_
                  refine wp_iald _ (pc' := 72) rfl (by first | exact TK.k1 hT rfl | exact TK.kk hT rfl | exact TK.r hT rfl | assumption) (by with_reducible rfl) (by omega) (by first | decide | assumption | omega) rfl ?_
                  rw [upr_same, row_rd (by omega), up1_hit]
                  refine wp_icmplt (pc' := 75) rfl rfl ?_ ?_
                  · intro h72
                    have h72n := nI_lt_inv (by omega) (by omega) h72
                    refine wp_aload0 (pc' := 79) rfl rfl ?_
                    refine wp_getRF (pc' := 82) rfl rfl (by first | exact TK.k1 hT rfl | exact TK.kk hT rfl | exact TK.r hT rfl | assumption) (by first | exact TK.k1 hT rfl | exact TK.kk hT rfl | exact TK.r hT rfl | assumption) rfl ?_
                    refine wp_iload1 (pc' := 83) rfl rfl ?_
                    refine wp_iload3 (pc' := 84) rfl rfl ?_
                    refine wp_callS2 (pc' := 87) rfl rfl rfl rfl rfl rfl ?_
                    refine m_netAt ?_
                    refine Cont.v ?_
                    refine wp_iload5 (pc' := 89) rfl rfl ?_
                    refine wp_iast _ (pc' := 90) rfl (by first | exact TK.k1 hT rfl | exact TK.kk hT rfl | exact TK.r hT rfl | assumption) (by omega) (by with_reducible rfl) (by omega) (by first | decide | assumption | omega) rfl ?_
                    refine wp_iconst (v := nI 1) (pc' := 91) rfl rfl rfl ?_
                    refine wp_istore2 (pc' := 92) rfl (by first | rfl | assumption) rfl ?_
                    first | refine wp_iinc4 (w := nI 1) (pc' := 95) rfl rfl rfl (by with_reducible exact nI_add _ _) rfl ?_ | refine wp_iinc4 (w := nI 1) (pc' := 95) rfl rfl rfl rfl rfl ?_
                    refine wp_goto rfl ?_
                    exact WP.cg (ihc (j + 1) _ (by omega) (by first | rfl | assumption)) (lC1 (lI1 (by first | with_reducible rfl | (rw [lesN_s, if_pos h57, Nat.min_eq_right (by omega), decide_eq_true (show b j + ditU dr i < b i by omega), Bool.or_true] <;> rfl) | (rw [lesN_s, if_pos h57, Nat.min_eq_left (by omega)]; done) | (rw [lesN_s, if_neg h57]; done)) (lI1 (by first | with_reducible rfl | (rw [lesN_s, if_pos h57, Nat.min_eq_right (by omega), decide_eq_true (show b j + ditU dr i < b i by omega), Bool.or_true] <;> rfl) | (rw [lesN_s, if_pos h57, Nat.min_eq_left (by omega)]; done) | (rw [lesN_s, if_neg h57]; done)) (lI1 (by first | with_reducible rfl | (rw [lesN_s, if_pos h57, Nat.min_eq_right (by omega), decide_eq_true (show b j + ditU dr i < b i by omega), Bool.or_true] <;> rfl) | (rw [lesN_s, if_pos h57, Nat.min_eq_left (by omega)]; done) | (rw [lesN_s, if_neg h57]; done)) (lI1 (by first | with_reducible rfl | (rw [lesN_s, if_pos h57, Nat.min_eq_right (by omega), decide_eq_true (show b j + ditU dr i < b i by omega), Bool.or_true] <;> rfl) | (rw [lesN_s, if_pos h57, Nat.min_eq_left (by omega)]; done) | (rw [lesN_s, if_neg h57]; done)) (lC1 rfl)))))) rfl (by first | (rw [up2_upr, row_up (by omega), up1_up1, lesN_s, if_pos h57, Nat.min_eq_right (by omega)] <;> rfl) | (rw [lesN_s, if_pos h57, Nat.min_eq_left (by omega)]; done) | (rw [lesN_s, if_neg h57]; done))
                  · intro h72
                    have h72n := ge_nI h72 (by omega)
                    refine wp_goto rfl ?_
                    first | refine wp_iinc4 (w := nI 1) (pc' := 95) rfl rfl rfl (by with_reducible exact nI_add _ _) rfl ?_ | refine wp_iinc4 (w := nI 1) (pc' := 95) rfl rfl rfl rfl rfl ?_
                    refine wp_goto rfl ?_
                    exact WP.cg (ihc (j + 1) _ (by omega) (by first | rfl | assumption)) (lC1 (lI1 (by first | with_reducible rfl | (rw [lesN_s, if_pos h57, Nat.min_eq_right (by omega), decide_eq_true (show b j + ditU dr i < b i by omega), Bool.or_true] <;> rfl) | (rw [lesN_s, if_pos h57, Nat.min_eq_left (by omega)]; done) | (rw [lesN_s, if_neg h57]; done)) (lI1 (by first | with_reducible rfl | (rw [lesN_s, if_pos h57, Nat.min_eq_right (by omega), decide_eq_true (show b j + ditU dr i < b i by omega), Bool.or_true] <;> rfl) | (rw [lesN_s, if_pos h57, Nat.min_eq_left (by omega)]; done) | (rw [lesN_s, if_neg h57]; done)) (lI1 (by first | with_reducible rfl | (rw [lesN_s, if_pos h57, Nat.min_eq_right (by omega), decide_eq_true (show b j + ditU dr i < b i by omega), Bool.or_true] <;> rfl) | (rw [lesN_s, if_pos h57, Nat.min_eq_left (by omega)]; done) | (rw [lesN_s, if_neg h57]; done)) (lI1 (by first | with_reducible rfl | (rw [lesN_s, if_pos h57, Nat.min_eq_right (by omega), decide_eq_true (show b j + ditU dr i < b i by omega), Bool.or_true] <;> rfl) | (rw [lesN_s, if_pos h57, Nat.min_eq_left (by omega)]; done) | (rw [lesN_s, if_neg h57]; done)) (lC1 rfl)))))) rfl (by first | (rw [up2_upr, row_up (by omega), up1_up1, lesN_s, if_pos h57, Nat.min_eq_right (by omega)] <;> rfl) | (rw [lesN_s, if_pos h57, Nat.min_eq_left (by omega)]; done) | (rw [lesN_s, if_neg h57]; done))
            exact WP.cg (lp19 (25 - (0)) (0) _ (by omega) (by first | rfl | assumption)) (lC1 (lI1 (by first | with_reducible rfl | (show _ = if (e || decide (b i < b i)) = true then nI 1 else nI 0; rw [decide_eq_false (Nat.lt_irrefl _), Bool.or_false])) (lI1 (by first | with_reducible rfl | (show _ = if (e || decide (b i < b i)) = true then nI 1 else nI 0; rw [decide_eq_false (Nat.lt_irrefl _), Bool.or_false])) (lI1 (by first | with_reducible rfl | (show _ = if (e || decide (b i < b i)) = true then nI 1 else nI 0; rw [decide_eq_false (Nat.lt_irrefl _), Bool.or_false])) (lI1 (by first | with_reducible rfl | (show _ = if (e || decide (b i < b i)) = true then nI 1 else nI 0; rw [decide_eq_false (Nat.lt_irrefl _), Bool.or_false])) (lC1 rfl)))))) rfl (by rw [up1_self (show w2 i = nI (lesN b (ditU dr i) i 0) from (hcr i (by omega)).1)])
        exact WP.cg (lp10 (25 - (0)) (0) w a false _ _ (by omega) (PasI_0 hv0) (by first | rfl | assumption) (by first | rfl | assumption)) (lC1 (lI1 (by rfl) (lI1 (by rfl) (lI1 (by rfl) (lC1 (lC1 rfl)))))) rfl (by rfl)
  exact WP.cg (lp2 _ w0 st true _ _ _ (Nat.le_refl _) ⟨hw0, fun g hg => hg.1, fun q _ => Nat.le_refl _⟩ (fun e => absurd e (by decide)) (by first | rfl | assumption) (by first | rfl | assumption) (by first | rfl | assumption)) (lC1 (lI1 (by rfl) (lI1 (by rfl) (lC1 (lC1 (lC1 rfl)))))) rfl (by rfl)
def nbs (dr tv : Nat → Nat) (m c : Nat) : Nat := if (m &&& (m - 1)) = 0 ∧ tv (lw4 m) = c then 1 - dr c else 100000000
def NetI (dr tv : Nat → Nat) (a : Nat → Nat → Nat) (M : Nat) : Prop := ∀ m, 1 ≤ m → m < M → ∃ st, (∀ c, c < 25 → NstQ (nbs dr tv m c) (vlN dr a m c) m 0 (st c)) ∧ FixI st (ditU dr) (a m)
theorem vl_ag {dr : Nat → Nat} {a : Nat → Nat → Nat} {r : Nat → Nat} {m k c q : Nat} (hm : m ≤ k) (h16 : m < 16) (hq0 : 0 < q) (hq : q < m) (hs : (q &&& m) = q) : vlN dr (up1 a k r) m c q = vlN dr a m c q := by
  have hx := (sub16 ⟨m, h16⟩ ⟨q, by omega⟩ hs).2 hq0 hq
  dsimp only at hx
  unfold vlN
  rw [up1_ne (show q ≠ k by omega), up1_ne (show (m ^^^ q) ≠ k by omega)]
theorem Nst_ag {b m x : Nat} {f g : Nat → Nat} (h : ∀ q, 0 < q → q < m → (q &&& m) = q → f q = g q) (hx : NstQ b f m 0 x) : NstQ b g m 0 x := by
  obtain ⟨h1, h2, h3⟩ := hx
  refine ⟨h1, fun q a1 a2 a3 => by rw [← h q a1 a2 a3]; exact h2 q a1 a2 a3, ?_⟩
  rcases h3 with h3 | ⟨q, a1, a2, a3, a4⟩
  · exact Or.inl h3
  · exact Or.inr ⟨q, a1, a2, a3, by rw [← h q a1 a2 a3]; exact a4⟩
theorem NetI_s {dr tv : Nat → Nat} {a : Nat → Nat → Nat} {m : Nat} {r st : Nat → Nat} (h16 : m < 16) (h : NetI dr tv a m) (h1 : ∀ c, c < 25 → NstQ (nbs dr tv m c) (vlN dr a m c) m 0 (st c)) (h2 : FixI st (ditU dr) r) : NetI dr tv (up1 a m r) (m + 1) := by
  intro k hk1 hk2
  by_cases e : k = m
  · subst e
    refine ⟨st, fun c hc => Nst_ag (fun q q1 q2 q3 => (vl_ag (Nat.le_refl _) h16 q1 q2 q3).symm) (h1 c hc), ?_⟩
    rw [up1_hit]; exact h2
  · obtain ⟨st2, g1, g2⟩ := h k hk1 (by omega)
    refine ⟨st2, fun c hc => Nst_ag (fun q q1 q2 q3 => (vl_ag (by omega) (by omega) q1 q2 q3).symm) (g1 c hc), ?_⟩
    rw [up1_ne e]; exact g2
theorem fix_ge {dr st a : Nat → Nat} (h : FixI st (ditU dr) a) (hs : ∀ c, c < 25 → ditU dr c ≤ st c) : ∀ c, c < 25 → ditU dr c ≤ a c := fun c hc => h.2 (ditU dr) ⟨hs, fun c q _ _ _ => Nat.le_add_left _ _⟩ c hc
theorem NtR_s {dr st r : Nat → Nat} {V w : Nat → Int32} {a : Nat → Nat → Nat} {m : Nat} (h : NtR dr V a m) (hw : CoR w r) (hf : FixI st (ditU dr) r) (hs : ∀ c, c < 25 → ditU dr c ≤ st c) : NtR dr (cpyO (25 * m) 25 w V) (up1 a m r) (m + 1) := by
  intro p c hp1 hp2 hc
  by_cases e : p = m
  · subst e
    rw [row_rd hc, up1_hit]
    exact ⟨(hw c hc).1, fix_ge hf hs c hc, (hw c hc).2⟩
  · rw [row_o (by omega), up1_ne e]
    exact h p c hp1 (by omega) hc
theorem NtR_o {dr : Nat → Nat} {V w : Nat → Int32} {a : Nat → Nat → Nat} {m : Nat} (h : NtR dr V a m) : NtR dr (cpyO (25 * m) 25 w V) a m := by
  intro p c hp1 hp2 hc
  rw [row_o (by omega)]
  exact h p c hp1 hp2 hc
theorem cpyO_cpyO {q : Nat} {w u V : Nat → Int32} : cpyO q 25 w (cpyO q 25 u V) = cpyO q 25 w V := by
  funext j
  unfold cpyO
  by_cases h : q ≤ j ∧ j < q + 25
  · rw [if_pos h, if_pos h]
  · rw [if_neg h, if_neg h, if_neg h]
theorem nst_ge {dr : Nat → Nat} {V : Nat → Int32} {a : Nat → Nat → Nat} {m c b x : Nat} (h16 : m < 16) (hc : c < 25) (hn : NtR dr V a m) (hb : ditU dr c ≤ b) (h : NstQ b (vlN dr a m c) m 0 x) : ditU dr c ≤ x := by
  rcases h.2.2 with e | ⟨q, q1, q2, q3, q4⟩
  · rw [e]; exact hb
  · have hx := (sub16 ⟨m, h16⟩ ⟨q, by omega⟩ q3).2 q1 q2
    dsimp only at hx
    have a1 := hn q c q1 q2 hc
    have a2 := hn (m ^^^ q) c hx.1 hx.2 hc
    rw [q4]; unfold vlN; omega
theorem nbs_ge {dr tv : Nat → Nat} {m c : Nat} : ditU dr c ≤ nbs dr tv m c ∧ nbs dr tv m c ≤ 100000000 := by
  unfold nbs ditU
  split <;> omega
theorem pow5b {T : Nat} (h : T ≤ 4) : 1 ≤ 2 ^ T ∧ 2 ^ T ≤ 16 := pow5 (by omega)
theorem shl4 {T : Nat} (h : T ≤ 4) : jshl (nI 1) (nI T) = nI (2 ^ T) := shl5a (by omega)

theorem m_isNet {d : Nat} {K : Nat → Nat × Nat} {I : Nat → Nat → Int32} {L : Nat → Nat → Int64} {R : Nat → Nat → Option Nat} {n s : Nat} {Q : Lo → Lm → Prop} {T : Nat} {tv : Nat → Nat} (hT : TK K R n) (he : I 318 11 = nI T) (hT4 : T ≤ 400) (htp : TpW (I 324) tv) (kk : Q (.inl (some (.int (if netB tv T T = true then nI 1 else nI 0)))) (K, I, L, R, n, s)) : Ok (d + 3) 309 [.ref 318] (K, I, L, R, n, s) Q := by
  obtain ⟨-, -, hn⟩ := id hT
  refine Ok.enter (F := F_309) (ls := [.ref 318, lDead, lDead]) rfl rfl ?_
  refine wp_aload0 (pc' := 1) rfl rfl ?_
  refine wp_getI (pc' := 4) rfl rfl (by first | exact TK.k1 hT rfl | exact TK.kk hT rfl | exact TK.r hT rfl | assumption) rfl ?_
  rw [he]
  refine wp_iconst (v := nI 4) (pc' := 5) rfl rfl rfl ?_
  refine wp_icmpgt (pc' := 8) rfl rfl ?_ ?_
  · intro h5
    refine wp_iconst (v := nI 0) (pc' := 13) rfl rfl rfl ?_
    refine wp_istore1 (pc' := 14) rfl (by first | rfl | assumption) rfl ?_
    refine wp_iconst (v := nI 0) (pc' := 15) rfl rfl rfl ?_
    refine wp_istore2 (pc' := 16) rfl (by first | rfl | assumption) rfl ?_
    have lp16 : ∀ r (i : Nat), i + r = T → WP (d + 2) F_309 16 [.ref 318, .int (if netB tv T i = true then nI 1 else nI 0), .int (nI i)] [] (K, I, L, R, n, s) Q := by
      intro r; induction r with
      | zero =>
        intro i hi 
        have hi2 : i = T := by omega
        subst hi2
        refine wp_iload2 (pc' := 17) rfl rfl ?_
        refine wp_aload0 (pc' := 18) rfl rfl ?_
        refine wp_getI (pc' := 21) rfl rfl (by first | exact TK.k1 hT rfl | exact TK.kk hT rfl | exact TK.r hT rfl | assumption) rfl ?_
        rw [he]
        refine wp_icmpgeT rfl (nI_nlt (by omega) (by omega)) ?_
        refine wp_iload1 (pc' := 53) rfl rfl ?_
        refine wp_iret rfl rfl (by first | rfl | exact nar_if) ?_
        first | exact kk | exact Qv kk (by rw [netB_f h25 (show i ≤ T by omega), if_neg h25]; rfl) rfl
      | succ r ih =>
        intro i hi 
        have hlt : i < T := by omega
        refine wp_iload2 (pc' := 17) rfl rfl ?_
        refine wp_aload0 (pc' := 18) rfl rfl ?_
        refine wp_getI (pc' := 21) rfl rfl (by first | exact TK.k1 hT rfl | exact TK.kk hT rfl | exact TK.r hT rfl | assumption) rfl ?_
        rw [he]
        refine wp_icmpgeF (pc' := 24) rfl (nI_lt (by omega) (by omega)) rfl ?_
        refine wp_iload1 (pc' := 25) rfl rfl ?_
        first | refine wp_ifeqB (pc' := 28) rfl rfl ?_ ?_ | refine wp_ifeq (pc' := 28) rfl rfl ?_ ?_
        · intro h25
          refine wp_iload1 (pc' := 53) rfl rfl ?_
          refine wp_iret rfl rfl (by first | rfl | exact nar_if) ?_
          first | exact kk | exact Qv kk (by rw [netB_f h25 (show i ≤ T by omega), if_neg h25]; rfl) rfl
        · intro h25
          refine wp_aload0 (pc' := 29) rfl rfl ?_
          refine wp_getRF (pc' := 32) rfl rfl (by first | exact TK.k1 hT rfl | exact TK.kk hT rfl | exact TK.r hT rfl | assumption) (by first | exact TK.k1 hT rfl | exact TK.kk hT rfl | exact TK.r hT rfl | assumption) rfl ?_
          refine wp_iload2 (pc' := 33) rfl rfl ?_
          first | refine wp_bald _ (pc' := 34) rfl (by first | exact TK.k1 hT rfl | exact TK.kk hT rfl | exact TK.r hT rfl | assumption) (by with_reducible rfl) (by omega) (by first | decide | assumption | omega) rfl ?_ | refine wp_zald _ (pc' := 34) rfl (by first | exact TK.k1 hT rfl | exact TK.kk hT rfl | exact TK.r hT rfl | assumption) (by with_reducible rfl) (by omega) (by first | decide | assumption | omega) rfl ?_
          rw [(htp _ (by omega)).1]
          refine wp_callS1 (pc' := 37) rfl rfl rfl rfl rfl rfl ?_
          refine m_noCellS (htp _ (by omega)).2 ?_
          refine Cont.v ?_
          first | refine wp_ifneB (pc' := 40) rfl rfl ?_ ?_ | refine wp_ifne (pc' := 40) rfl rfl ?_ ?_
          · intro h37
            refine wp_iconst (v := nI 0) (pc' := 45) rfl rfl rfl ?_
            refine wp_istore1 (pc' := 46) rfl (by first | rfl | assumption) rfl ?_
            first | refine wp_iinc2 (w := nI 1) (pc' := 49) rfl rfl rfl (by with_reducible exact nI_add _ _) rfl ?_ | refine wp_iinc2 (w := nI 1) (pc' := 49) rfl rfl rfl rfl rfl ?_
            refine wp_goto rfl ?_
            exact WP.cg (ih (i + 1) (by omega)) (lC1 (lI1 (by first | with_reducible rfl | (show _ = if (netB tv T i && decide (tv i < 25)) = true then nI 1 else nI 0; rw [h25, decide_eq_true (Classical.byContradiction h37)]; rfl) | (show _ = if (netB tv T i && decide (tv i < 25)) = true then nI 1 else nI 0; rw [decide_eq_false h37, Bool.and_false]; rfl)) (lI1 (by first | with_reducible rfl | (show _ = if (netB tv T i && decide (tv i < 25)) = true then nI 1 else nI 0; rw [h25, decide_eq_true (Classical.byContradiction h37)]; rfl) | (show _ = if (netB tv T i && decide (tv i < 25)) = true then nI 1 else nI 0; rw [decide_eq_false h37, Bool.and_false]; rfl)) rfl))) rfl (by rfl)
          · intro h37
            refine wp_iconst (v := nI 1) (pc' := 41) rfl rfl rfl ?_
            refine wp_goto rfl ?_
            refine wp_istore1 (pc' := 46) rfl (by first | rfl | assumption) rfl ?_
            first | refine wp_iinc2 (w := nI 1) (pc' := 49) rfl rfl rfl (by with_reducible exact nI_add _ _) rfl ?_ | refine wp_iinc2 (w := nI 1) (pc' := 49) rfl rfl rfl rfl rfl ?_
            refine wp_goto rfl ?_
            exact WP.cg (ih (i + 1) (by omega)) (lC1 (lI1 (by first | with_reducible rfl | (show _ = if (netB tv T i && decide (tv i < 25)) = true then nI 1 else nI 0; rw [h25, decide_eq_true (Classical.byContradiction h37)]; rfl) | (show _ = if (netB tv T i && decide (tv i < 25)) = true then nI 1 else nI 0; rw [decide_eq_false h37, Bool.and_false]; rfl)) (lI1 (by first | with_reducible rfl | (show _ = if (netB tv T i && decide (tv i < 25)) = true then nI 1 else nI 0; rw [h25, decide_eq_true (Classical.byContradiction h37)]; rfl) | (show _ = if (netB tv T i && decide (tv i < 25)) = true then nI 1 else nI 0; rw [decide_eq_false h37, Bool.and_false]; rfl)) rfl))) rfl (by rfl)
    exact WP.cg (lp16 (T - (0)) (0) (by omega)) (lC1 (lI1 (by first | with_reducible rfl | (show _ = if decide (T ≤ 4) = true then nI 1 else nI 0; rw [decide_eq_true (ge_nI h5 (by omega))]; rfl) | (show _ = if decide (T ≤ 4) = true then nI 1 else nI 0; rw [decide_eq_false (Nat.not_le.mpr (nI_lt_inv (by omega) (by omega) h5))]; rfl) | rfl) (lI1 (by first | with_reducible rfl | (show _ = if decide (T ≤ 4) = true then nI 1 else nI 0; rw [decide_eq_true (ge_nI h5 (by omega))]; rfl) | (show _ = if decide (T ≤ 4) = true then nI 1 else nI 0; rw [decide_eq_false (Nat.not_le.mpr (nI_lt_inv (by omega) (by omega) h5))]; rfl) | rfl) rfl))) rfl (by rfl)
  · intro h5
    refine wp_iconst (v := nI 1) (pc' := 9) rfl rfl rfl ?_
    refine wp_goto rfl ?_
    refine wp_istore1 (pc' := 14) rfl (by first | rfl | assumption) rfl ?_
    refine wp_iconst (v := nI 0) (pc' := 15) rfl rfl rfl ?_
    refine wp_istore2 (pc' := 16) rfl (by first | rfl | assumption) rfl ?_
    have lp16 : ∀ r (i : Nat), i + r = T → WP (d + 2) F_309 16 [.ref 318, .int (if netB tv T i = true then nI 1 else nI 0), .int (nI i)] [] (K, I, L, R, n, s) Q := by
      intro r; induction r with
      | zero =>
        intro i hi 
        have hi2 : i = T := by omega
        subst hi2
        refine wp_iload2 (pc' := 17) rfl rfl ?_
        refine wp_aload0 (pc' := 18) rfl rfl ?_
        refine wp_getI (pc' := 21) rfl rfl (by first | exact TK.k1 hT rfl | exact TK.kk hT rfl | exact TK.r hT rfl | assumption) rfl ?_
        rw [he]
        refine wp_icmpgeT rfl (nI_nlt (by omega) (by omega)) ?_
        refine wp_iload1 (pc' := 53) rfl rfl ?_
        refine wp_iret rfl rfl (by first | rfl | exact nar_if) ?_
        first | exact kk | exact Qv kk (by rw [netB_f h25 (show i ≤ T by omega), if_neg h25]; rfl) rfl
      | succ r ih =>
        intro i hi 
        have hlt : i < T := by omega
        refine wp_iload2 (pc' := 17) rfl rfl ?_
        refine wp_aload0 (pc' := 18) rfl rfl ?_
        refine wp_getI (pc' := 21) rfl rfl (by first | exact TK.k1 hT rfl | exact TK.kk hT rfl | exact TK.r hT rfl | assumption) rfl ?_
        rw [he]
        refine wp_icmpgeF (pc' := 24) rfl (nI_lt (by omega) (by omega)) rfl ?_
        refine wp_iload1 (pc' := 25) rfl rfl ?_
        first | refine wp_ifeqB (pc' := 28) rfl rfl ?_ ?_ | refine wp_ifeq (pc' := 28) rfl rfl ?_ ?_
        · intro h25
          refine wp_iload1 (pc' := 53) rfl rfl ?_
          refine wp_iret rfl rfl (by first | rfl | exact nar_if) ?_
          first | exact kk | exact Qv kk (by rw [netB_f h25 (show i ≤ T by omega), if_neg h25]; rfl) rfl
        · intro h25
          refine wp_aload0 (pc' := 29) rfl rfl ?_
          refine wp_getRF (pc' := 32) rfl rfl (by first | exact TK.k1 hT rfl | exact TK.kk hT rfl | exact TK.r hT rfl | assumption) (by first | exact TK.k1 hT rfl | exact TK.kk hT rfl | exact TK.r hT rfl | assumption) rfl ?_
          refine wp_iload2 (pc' := 33) rfl rfl ?_
          first | refine wp_bald _ (pc' := 34) rfl (by first | exact TK.k1 hT rfl | exact TK.kk hT rfl | exact TK.r hT rfl | assumption) (by with_reducible rfl) (by omega) (by first | decide | assumption | omega) rfl ?_ | refine wp_zald _ (pc' := 34) rfl (by first | exact TK.k1 hT rfl | exact TK.kk hT rfl | exact TK.r hT rfl | assumption) (by with_reducible rfl) (by omega) (by first | decide | assumption | omega) rfl ?_
          rw [(htp _ (by omega)).1]
          refine wp_callS1 (pc' := 37) rfl rfl rfl rfl rfl rfl ?_
          refine m_noCellS (htp _ (by omega)).2 ?_
          refine Cont.v ?_
          first | refine wp_ifneB (pc' := 40) rfl rfl ?_ ?_ | refine wp_ifne (pc' := 40) rfl rfl ?_ ?_
          · intro h37
            refine wp_iconst (v := nI 0) (pc' := 45) rfl rfl rfl ?_
            refine wp_istore1 (pc' := 46) rfl (by first | rfl | assumption) rfl ?_
            first | refine wp_iinc2 (w := nI 1) (pc' := 49) rfl rfl rfl (by with_reducible exact nI_add _ _) rfl ?_ | refine wp_iinc2 (w := nI 1) (pc' := 49) rfl rfl rfl rfl rfl ?_
            refine wp_goto rfl ?_
            exact WP.cg (ih (i + 1) (by omega)) (lC1 (lI1 (by first | with_reducible rfl | (show _ = if (netB tv T i && decide (tv i < 25)) = true then nI 1 else nI 0; rw [h25, decide_eq_true (Classical.byContradiction h37)]; rfl) | (show _ = if (netB tv T i && decide (tv i < 25)) = true then nI 1 else nI 0; rw [decide_eq_false h37, Bool.and_false]; rfl)) (lI1 (by first | with_reducible rfl | (show _ = if (netB tv T i && decide (tv i < 25)) = true then nI 1 else nI 0; rw [h25, decide_eq_true (Classical.byContradiction h37)]; rfl) | (show _ = if (netB tv T i && decide (tv i < 25)) = true then nI 1 else nI 0; rw [decide_eq_false h37, Bool.and_false]; rfl)) rfl))) rfl (by rfl)
          · intro h37
            refine wp_iconst (v := nI 1) (pc' := 41) rfl rfl rfl ?_
            refine wp_goto rfl ?_
            refine wp_istore1 (pc' := 46) rfl (by first | rfl | assumption) rfl ?_
            first | refine wp_iinc2 (w := nI 1) (pc' := 49) rfl rfl rfl (by with_reducible exact nI_add _ _) rfl ?_ | refine wp_iinc2 (w := nI 1) (pc' := 49) rfl rfl rfl rfl rfl ?_
            refine wp_goto rfl ?_
            exact WP.cg (ih (i + 1) (by omega)) (lC1 (lI1 (by first | with_reducible rfl | (show _ = if (netB tv T i && decide (tv i < 25)) = true then nI 1 else nI 0; rw [h25, decide_eq_true (Classical.byContradiction h37)]; rfl) | (show _ = if (netB tv T i && decide (tv i < 25)) = true then nI 1 else nI 0; rw [decide_eq_false h37, Bool.and_false]; rfl)) (lI1 (by first | with_reducible rfl | (show _ = if (netB tv T i && decide (tv i < 25)) = true then nI 1 else nI 0; rw [h25, decide_eq_true (Classical.byContradiction h37)]; rfl) | (show _ = if (netB tv T i && decide (tv i < 25)) = true then nI 1 else nI 0; rw [decide_eq_false h37, Bool.and_false]; rfl)) rfl))) rfl (by rfl)
    exact WP.cg (lp16 (T - (0)) (0) (by omega)) (lC1 (lI1 (by first | with_reducible rfl | (show _ = if decide (T ≤ 4) = true then nI 1 else nI 0; rw [decide_eq_true (ge_nI h5 (by omega))]; rfl) | (show _ = if decide (T ≤ 4) = true then nI 1 else nI 0; rw [decide_eq_false (Nat.not_le.mpr (nI_lt_inv (by omega) (by omega) h5))]; rfl) | rfl) (lI1 (by first | with_reducible rfl | (show _ = if decide (T ≤ 4) = true then nI 1 else nI 0; rw [decide_eq_true (ge_nI h5 (by omega))]; rfl) | (show _ = if decide (T ≤ 4) = true then nI 1 else nI 0; rw [decide_eq_false (Nat.not_le.mpr (nI_lt_inv (by omega) (by omega) h5))]; rfl) | rfl) rfl))) rfl (by rfl)
theorem m_net {d : Nat} {K : Nat → Nat × Nat} {I : Nat → Nat → Int32} {L : Nat → Nat → Int64} {R : Nat → Nat → Option Nat} {n s : Nat} {Q : Lo → Lm → Prop} {T : Nat} {tv : Nat → Nat} {dr : Nat → Nat} (hT : TK K R n) (h9 : I 318 9 = nI T) (hT4 : T ≤ 400) (htp : TpW (I 324) tv) (hr : netB tv T T = true) (hT0 : 0 < T) (hdr : DrW (I 319) dr) (kk : ∀ a, NetI dr tv a (2 ^ T) → ∀ J, UsJ 0 I J → Q (.inl (some (.int (nI (a (2 ^ T - 1) 24))))) (K, J, L, R, n, s)) : Ok (d + 4) 308 [.ref 318] (K, I, L, R, n, s) Q := by
  obtain ⟨-, -, hn⟩ := id hT
  have hT4b := netB_4 hr
  have hpw := pow5b hT4b
  have hpw2 : 2 ≤ 2 ^ T := by have := Nat.pow_le_pow_right (show 0 < 2 by decide) hT0; omega
  refine Ok.enter (F := F_308) (ls := [.ref 318, lDead, lDead, lDead]) rfl rfl ?_
  refine wp_aload0 (pc' := 1) rfl rfl ?_
  refine wp_callV1 (pc' := 4) rfl rfl rfl rfl rfl (by first | exact TK.k1 hT rfl | exact TK.kk hT rfl | exact TK.r hT rfl | assumption) rfl rfl ?_
  refine m_usesN hT h9 (fun N hN => ?_)
  have htpN : TpW (N 324) tv := by rw [hN.1 324 (by decide)]; exact htp
  have hN9 : N 319 = I 319 := hN.1 319 (by decide)
  refine Cont.u ?_
  refine wp_aload0 (pc' := 5) rfl rfl ?_
  refine wp_aload0 (pc' := 6) rfl rfl ?_
  refine wp_callV1 (pc' := 9) rfl rfl rfl rfl rfl (by first | exact TK.k1 hT rfl | exact TK.kk hT rfl | exact TK.r hT rfl | assumption) rfl rfl ?_
  refine m_isNet hT hN.2.2.2.2.1 hT4 htpN ?_
  rw [if_pos hr]
  refine Cont.v ?_
  refine wp_ifneT rfl (by decide) ?_
  refine wp_iconst (v := nI 0) (pc' := 17) rfl rfl rfl ?_
  refine wp_iconst (v := nI 1) (pc' := 18) rfl rfl rfl ?_
  refine wp_callV3 (pc' := 21) rfl rfl rfl rfl rfl (by first | exact TK.k1 hT rfl | exact TK.kk hT rfl | exact TK.r hT rfl | assumption) rfl rfl ?_
  refine m_tfN hT ?_
  refine Cont.v ?_
  refine wp_ifeqT rfl rfl ?_
  refine wp_aload0 (pc' := 27) rfl rfl ?_
  refine wp_getI (pc' := 30) rfl rfl (by first | exact TK.k1 hT rfl | exact TK.kk hT rfl | exact TK.r hT rfl | assumption) rfl ?_
  rw [hN.2.2.2.2.1]
  refine wp_ifneT rfl (fun q => absurd ((nI_eq (by omega) (by decide)).mp q) (by omega)) ?_
  refine wp_iconst (v := nI 1) (pc' := 36) rfl rfl rfl ?_
  refine wp_istore1 (pc' := 37) rfl (by first | rfl | assumption) rfl ?_
  have lp37 : ∀ r (i : Nat) (V : Nat → Int32) (a : Nat → Nat → Nat) (v2 : Value) (v3 : Value), i + r = (2 ^ T - 1) → NetI dr tv a (1 + i) → NtR dr V a (1 + i) → isL v2 = false → isL v3 = false → WP (d + 3) F_308 37 [.ref 318, .int (nI (1 + i)), v2, v3] [] (K, upr N 329 V, L, R, n, s) Q := by
    intro r; induction r with
    | zero =>
      intro i V a v2 v3 hi hv0 hv1 hv2 hv3
      have hi2 : i = (2 ^ T - 1) := by omega
      subst hi2
      refine wp_iload1 (pc' := 38) rfl rfl ?_
      refine wp_iconst (v := nI 1) (pc' := 39) rfl rfl rfl ?_
      refine wp_aload0 (pc' := 40) rfl rfl ?_
      refine wp_getI (pc' := 43) rfl rfl (by first | exact TK.k1 hT rfl | exact TK.kk hT rfl | exact TK.r hT rfl | assumption) rfl ?_
      rw [upr_ne (show (318 : Nat) ≠ 329 by decide), hN.2.2.2.2.1]
      refine wp_ishl (pc' := 44) rfl rfl ?_
      rw [shl4 hT4b]
      refine wp_icmpgeT rfl (nI_nlt (by omega) (by omega)) ?_
      refine wp_aload0 (pc' := 132) rfl rfl ?_
      refine wp_getRF (pc' := 135) rfl rfl (by first | exact TK.k1 hT rfl | exact TK.kk hT rfl | exact TK.r hT rfl | assumption) (by first | exact TK.k1 hT rfl | exact TK.kk hT rfl | exact TK.r hT rfl | assumption) rfl ?_
      refine wp_iconst (v := nI 1) (pc' := 136) rfl rfl rfl ?_
      refine wp_aload0 (pc' := 137) rfl rfl ?_
      refine wp_getI (pc' := 140) rfl rfl (by first | exact TK.k1 hT rfl | exact TK.kk hT rfl | exact TK.r hT rfl | assumption) rfl ?_
      rw [upr_ne (show (318 : Nat) ≠ 329 by decide), hN.2.2.2.2.1]
      refine wp_ishl (pc' := 141) rfl rfl ?_
      rw [shl4 hT4b]
      refine wp_iconst (v := nI 1) (pc' := 142) rfl rfl rfl ?_
      first | refine wp_isubN (pc' := 143) rfl (by with_reducible rfl) (by with_reducible rfl) (by omega) rfl ?_ | refine wp_isub (pc' := 143) rfl rfl ?_
      refine wp_bipush (v := nI 24) (pc' := 145) rfl rfl rfl ?_
      refine wp_callS2 (pc' := 148) rfl rfl rfl rfl rfl rfl ?_
      refine m_netAt ?_
      refine Cont.v ?_
      refine wp_iald _ (pc' := 149) rfl (by first | exact TK.k1 hT rfl | exact TK.kk hT rfl | exact TK.r hT rfl | assumption) (by with_reducible rfl) (by omega) (by first | decide | assumption | omega) rfl ?_
      rw [upr_same, (hv1 _ _ (by omega) (by omega) (by decide)).1]
      refine wp_iret rfl rfl rfl ?_
      have hUV : UsJ 0 I (upr N 329 V) := us_mk hN (fun a ha => upr_ne (by omega))
      have e1 : 1 + (2 ^ T - 1) = 2 ^ T := by omega
      rw [e1] at hv0
      exact kk a hv0 _ hUV
    | succ r ih =>
      intro i V a v2 v3 hi hv0 hv1 hv2 hv3
      have hlt : i < (2 ^ T - 1) := by omega
      obtain ⟨m, hm⟩ : ∃ m, m = 1 + i := ⟨_, rfl⟩
      rw [← hm] at hv0 hv1 ⊢
      have hlw := lw4_ok ⟨m, by omega⟩ (by show 1 ≤ m; omega)
      dsimp only at hlw
      have hlT := hlw.2.2 ⟨T, by omega⟩ (by show m < 2 ^ T; omega)
      dsimp only at hlT
      have htl := netB_lt hr (lw4 m) hlT
      refine wp_iload1 (pc' := 38) rfl rfl ?_
      refine wp_iconst (v := nI 1) (pc' := 39) rfl rfl rfl ?_
      refine wp_aload0 (pc' := 40) rfl rfl ?_
      refine wp_getI (pc' := 43) rfl rfl (by first | exact TK.k1 hT rfl | exact TK.kk hT rfl | exact TK.r hT rfl | assumption) rfl ?_
      rw [upr_ne (show (318 : Nat) ≠ 329 by decide), hN.2.2.2.2.1]
      refine wp_ishl (pc' := 44) rfl rfl ?_
      rw [shl4 hT4b]
      refine wp_icmpgeF (pc' := 47) rfl (nI_lt (by omega) (by omega)) rfl ?_
      refine wp_iconst (v := nI 0) (pc' := 48) rfl rfl rfl ?_
      refine wp_istore2 (pc' := 49) rfl (by first | rfl | assumption) rfl ?_
      have lp49 : ∀ rb (c : Nat) (w : Nat → Int32) (v3 : Value), c + rb = 25 → (∀ k, k < c → w k = nI (nbs dr tv m k)) → isL v3 = false → WP (d + 3) F_308 49 [.ref 318, .int (nI m), .int (nI c), v3] [] (K, upr N 329 (cpyO (25 * m) 25 w V), L, R, n, s) Q := by
        intro rb; induction rb with
        | zero =>
          intro c w v3 hib hvb0 hvb1
          have hi2b : c = 25 := by omega
          subst hi2b
          refine wp_iload2 (pc' := 50) rfl rfl ?_
          refine wp_bipush (v := nI 25) (pc' := 52) rfl rfl rfl ?_
          refine wp_icmpgeT rfl (nI_nlt (by omega) (by omega)) ?_
          refine wp_aload0 (pc' := 116) rfl rfl ?_
          refine wp_iload1 (pc' := 117) rfl rfl ?_
          refine wp_callV2 (pc' := 120) rfl rfl rfl rfl rfl (by first | exact TK.k1 hT rfl | exact TK.kk hT rfl | exact TK.r hT rfl | assumption) rfl rfl ?_
          refine m_joinsNets (dr := dr) (b := nbs dr tv m) (a := a) (V := cpyO (25 * m) 25 w V) hT upr_same (by omega) (by omega) (by rw [upr_ne (show (319 : Nat) ≠ 329 by decide), hN9]; exact hdr) (NtR_o hv1) (fun c hc => ⟨by rw [row_rd hc]; exact hvb0 c hc, nbs_ge.2⟩) (fun w2 hw2 => ?_)
          rw [upr_upr, cpyO_cpyO]
          have hcho : ∃ st : Nat → Nat, ∀ c, c < 25 → w2 c = nI (st c) ∧ NstQ (nbs dr tv m c) (vlN dr a m c) m 0 (st c) := ⟨fun c => tn (w2 c), fun c hc => by obtain ⟨x, hx, hx2⟩ := hw2 c hc; have hxb := hx2.1; have hnb := (nbs_ge (dr := dr) (tv := tv) (m := m) (c := c)).2; show w2 c = nI (tn (w2 c)) ∧ NstQ (nbs dr tv m c) (vlN dr a m c) m 0 (tn (w2 c)); rw [hx, tn_nI (by omega)]; exact ⟨rfl, hx2⟩⟩
          obtain ⟨st, hst⟩ := hcho
          refine Cont.u ?_
          refine wp_aload0 (pc' := 121) rfl rfl ?_
          refine wp_iload1 (pc' := 122) rfl rfl ?_
          refine wp_callV2 (pc' := 125) rfl rfl rfl rfl rfl (by first | exact TK.k1 hT rfl | exact TK.kk hT rfl | exact TK.r hT rfl | assumption) rfl rfl ?_
          refine m_spreadsNets (I := N) (dr := dr) (st := st) (V := V) (w0 := w2) hT (by omega) (by rw [hN9]; exact hdr) (fun c hc => ⟨(hst c hc).1, Nat.le_trans (hst c hc).2.1 nbs_ge.2⟩) (fun a2 w3 hf2 hw3 => ?_)
          refine Cont.u ?_
          first | refine wp_iinc1 (w := nI 1) (pc' := 128) rfl rfl rfl (by with_reducible exact nI_add _ _) rfl ?_ | refine wp_iinc1 (w := nI 1) (pc' := 128) rfl rfl rfl rfl rfl ?_
          refine wp_goto rfl ?_
          exact WP.cg (ih (i + 1) (cpyO (25 * m) 25 w3 V) (up1 a m a2) _ _ (by omega) (by rw [show 1 + (i + 1) = m + 1 by omega]; exact NetI_s (by omega) hv0 (fun c hc => (hst c hc).2) hf2) (by rw [show 1 + (i + 1) = m + 1 by omega]; exact NtR_s hv1 hw3 hf2 (fun c hc => nst_ge (by omega) hc hv1 nbs_ge.1 (hst c hc).2)) (by first | rfl | assumption) (by first | rfl | assumption)) (lC1 (lI1 (by first | with_reducible rfl | (rw [hm]; rfl)) (lC1 (lC1 rfl)))) rfl (by rfl)
        | succ rb ihb =>
          intro c w v3 hib hvb0 hvb1
          have hltb : c < 25 := by omega
          have hd1 := (hdr c (by omega)).2
          refine wp_iload2 (pc' := 50) rfl rfl ?_
          refine wp_bipush (v := nI 25) (pc' := 52) rfl rfl rfl ?_
          refine wp_icmpgeF (pc' := 55) rfl (nI_lt (by omega) (by omega)) rfl ?_
          refine wp_iload1 (pc' := 56) rfl rfl ?_
          refine wp_iload1 (pc' := 57) rfl rfl ?_
          refine wp_iconst (v := nI 1) (pc' := 58) rfl rfl rfl ?_
          first | refine wp_isubN (pc' := 59) rfl (by with_reducible rfl) (by with_reducible rfl) (by omega) rfl ?_ | refine wp_isub (pc' := 59) rfl rfl ?_
          refine wp_iand (pc' := 60) rfl rfl ?_
          rw [nand]
          first | refine wp_ifneB (pc' := 63) rfl rfl ?_ ?_ | refine wp_ifne (pc' := 63) rfl rfl ?_ ?_
          · intro h60
            refine wp_iconst (v := nI 0) (pc' := 81) rfl rfl rfl ?_
            refine wp_istore3 (pc' := 82) rfl (by first | rfl | assumption) rfl ?_
            refine wp_aload0 (pc' := 83) rfl rfl ?_
            refine wp_getRF (pc' := 86) rfl rfl (by first | exact TK.k1 hT rfl | exact TK.kk hT rfl | exact TK.r hT rfl | assumption) (by first | exact TK.k1 hT rfl | exact TK.kk hT rfl | exact TK.r hT rfl | assumption) rfl ?_
            refine wp_iload1 (pc' := 87) rfl rfl ?_
            refine wp_iload2 (pc' := 88) rfl rfl ?_
            refine wp_callS2 (pc' := 91) rfl rfl rfl rfl rfl rfl ?_
            refine m_netAt ?_
            refine Cont.v ?_
            refine wp_iload3 (pc' := 92) rfl rfl ?_
            refine wp_ifeqT rfl rfl ?_
            refine wp_pool (v := .int (nI 100000000)) (pc' := 108) rfl rfl rfl rfl rfl ?_
            refine wp_iast _ (pc' := 109) rfl (by first | exact TK.k1 hT rfl | exact TK.kk hT rfl | exact TK.r hT rfl | assumption) (by omega) (by with_reducible rfl) (by omega) (by first | decide | assumption | omega) rfl ?_
            first | refine wp_iinc2 (w := nI 1) (pc' := 112) rfl rfl rfl (by with_reducible exact nI_add _ _) rfl ?_ | refine wp_iinc2 (w := nI 1) (pc' := 112) rfl rfl rfl rfl rfl ?_
            refine wp_goto rfl ?_
            exact WP.cg (ihb (c + 1) (up1 w c (nI (nbs dr tv m c))) _ (by omega) (up1_ext (p := fun k => nI (nbs dr tv m k)) hvb0) (by first | rfl | assumption)) (lC1 (lI1 (by rfl) (lI1 (by rfl) (lC1 rfl)))) rfl (by rw [up2_upr, row_up (by omega)]; first | (rw [show nbs dr tv m c = 1 - dr c from if_pos (And.intro (eq_nI h60 (by have := @Nat.and_le_left m (m - 1); omega) (by decide)) (eq_nI h73 (by omega) (by omega)))]; done) | (rw [show nbs dr tv m c = 100000000 from if_neg (fun q => h73 (by rw [q.2]))]; done) | (rw [show nbs dr tv m c = 100000000 from if_neg (fun q => h60 (by rw [q.1]))]; done))
          · intro h60
            refine wp_aload0 (pc' := 64) rfl rfl ?_
            refine wp_getRF (pc' := 67) rfl rfl (by first | exact TK.k1 hT rfl | exact TK.kk hT rfl | exact TK.r hT rfl | assumption) (by first | exact TK.k1 hT rfl | exact TK.kk hT rfl | exact TK.r hT rfl | assumption) rfl ?_
            refine wp_iload1 (pc' := 68) rfl rfl ?_
            refine wp_callS1 (pc' := 71) rfl rfl rfl rfl rfl rfl ?_
            refine m_ntz (c := lw4 m) (by omega) hlw.2.1 ?_
            refine Cont.v ?_
            first | refine wp_bald _ (pc' := 72) rfl (by first | exact TK.k1 hT rfl | exact TK.kk hT rfl | exact TK.r hT rfl | assumption) (by with_reducible rfl) (by omega) (by first | decide | assumption | omega) rfl ?_ | refine wp_zald _ (pc' := 72) rfl (by first | exact TK.k1 hT rfl | exact TK.kk hT rfl | exact TK.r hT rfl | assumption) (by with_reducible rfl) (by omega) (by first | decide | assumption | omega) rfl ?_
            rw [upr_ne (show (324 : Nat) ≠ 329 by decide), (htpN _ (by omega)).1, sb_lo (by omega)]
            refine wp_iload2 (pc' := 73) rfl rfl ?_
            refine wp_icmpne (pc' := 76) rfl rfl ?_ ?_
            · intro h73
              refine wp_iconst (v := nI 0) (pc' := 81) rfl rfl rfl ?_
              refine wp_istore3 (pc' := 82) rfl (by first | rfl | assumption) rfl ?_
              refine wp_aload0 (pc' := 83) rfl rfl ?_
              refine wp_getRF (pc' := 86) rfl rfl (by first | exact TK.k1 hT rfl | exact TK.kk hT rfl | exact TK.r hT rfl | assumption) (by first | exact TK.k1 hT rfl | exact TK.kk hT rfl | exact TK.r hT rfl | assumption) rfl ?_
              refine wp_iload1 (pc' := 87) rfl rfl ?_
              refine wp_iload2 (pc' := 88) rfl rfl ?_
              refine wp_callS2 (pc' := 91) rfl rfl rfl rfl rfl rfl ?_
              refine m_netAt ?_
              refine Cont.v ?_
              refine wp_iload3 (pc' := 92) rfl rfl ?_
              refine wp_ifeqT rfl rfl ?_
              refine wp_pool (v := .int (nI 100000000)) (pc' := 108) rfl rfl rfl rfl rfl ?_
              refine wp_iast _ (pc' := 109) rfl (by first | exact TK.k1 hT rfl | exact TK.kk hT rfl | exact TK.r hT rfl | assumption) (by omega) (by with_reducible rfl) (by omega) (by first | decide | assumption | omega) rfl ?_
              first | refine wp_iinc2 (w := nI 1) (pc' := 112) rfl rfl rfl (by with_reducible exact nI_add _ _) rfl ?_ | refine wp_iinc2 (w := nI 1) (pc' := 112) rfl rfl rfl rfl rfl ?_
              refine wp_goto rfl ?_
              exact WP.cg (ihb (c + 1) (up1 w c (nI (nbs dr tv m c))) _ (by omega) (up1_ext (p := fun k => nI (nbs dr tv m k)) hvb0) (by first | rfl | assumption)) (lC1 (lI1 (by rfl) (lI1 (by rfl) (lC1 rfl)))) rfl (by rw [up2_upr, row_up (by omega)]; first | (rw [show nbs dr tv m c = 1 - dr c from if_pos (And.intro (eq_nI h60 (by have := @Nat.and_le_left m (m - 1); omega) (by decide)) (eq_nI h73 (by omega) (by omega)))]; done) | (rw [show nbs dr tv m c = 100000000 from if_neg (fun q => h73 (by rw [q.2]))]; done) | (rw [show nbs dr tv m c = 100000000 from if_neg (fun q => h60 (by rw [q.1]))]; done))
            · intro h73
              refine wp_iconst (v := nI 1) (pc' := 77) rfl rfl rfl ?_
              refine wp_goto rfl ?_
              refine wp_istore3 (pc' := 82) rfl (by first | rfl | assumption) rfl ?_
              refine wp_aload0 (pc' := 83) rfl rfl ?_
              refine wp_getRF (pc' := 86) rfl rfl (by first | exact TK.k1 hT rfl | exact TK.kk hT rfl | exact TK.r hT rfl | assumption) (by first | exact TK.k1 hT rfl | exact TK.kk hT rfl | exact TK.r hT rfl | assumption) rfl ?_
              refine wp_iload1 (pc' := 87) rfl rfl ?_
              refine wp_iload2 (pc' := 88) rfl rfl ?_
              refine wp_callS2 (pc' := 91) rfl rfl rfl rfl rfl rfl ?_
              refine m_netAt ?_
              refine Cont.v ?_
              refine wp_iload3 (pc' := 92) rfl rfl ?_
              refine wp_ifeqF (pc' := 95) rfl (by decide) rfl ?_
              refine wp_iconst (v := nI 1) (pc' := 96) rfl rfl rfl ?_
              refine wp_aload0 (pc' := 97) rfl rfl ?_
              refine wp_iload2 (pc' := 98) rfl rfl ?_
              refine wp_iconst (v := nI 2) (pc' := 99) rfl rfl rfl ?_
              refine wp_callV3 (pc' := 102) rfl rfl rfl rfl rfl (by first | exact TK.k1 hT rfl | exact TK.kk hT rfl | exact TK.r hT rfl | assumption) rfl rfl ?_
              refine m_of hT (by omega) (by decide) ?_
              rw [upr_ne (show (319 : Nat) ≠ 329 by decide), hN9, (hdr _ (by omega)).1]
              refine Cont.v ?_
              first | refine wp_isubN (pc' := 103) rfl (by with_reducible rfl) (by with_reducible rfl) (by omega) rfl ?_ | refine wp_isub (pc' := 103) rfl rfl ?_
              refine wp_goto rfl ?_
              refine wp_iast _ (pc' := 109) rfl (by first | exact TK.k1 hT rfl | exact TK.kk hT rfl | exact TK.r hT rfl | assumption) (by omega) (by with_reducible rfl) (by omega) (by first | decide | assumption | omega) rfl ?_
              first | refine wp_iinc2 (w := nI 1) (pc' := 112) rfl rfl rfl (by with_reducible exact nI_add _ _) rfl ?_ | refine wp_iinc2 (w := nI 1) (pc' := 112) rfl rfl rfl rfl rfl ?_
              refine wp_goto rfl ?_
              exact WP.cg (ihb (c + 1) (up1 w c (nI (nbs dr tv m c))) _ (by omega) (up1_ext (p := fun k => nI (nbs dr tv m k)) hvb0) (by first | rfl | assumption)) (lC1 (lI1 (by rfl) (lI1 (by rfl) (lC1 rfl)))) rfl (by rw [up2_upr, row_up (by omega)]; first | (rw [show nbs dr tv m c = 1 - dr c from if_pos (And.intro (eq_nI h60 (by have := @Nat.and_le_left m (m - 1); omega) (by decide)) (eq_nI h73 (by omega) (by omega)))]; done) | (rw [show nbs dr tv m c = 100000000 from if_neg (fun q => h73 (by rw [q.2]))]; done) | (rw [show nbs dr tv m c = 100000000 from if_neg (fun q => h60 (by rw [q.1]))]; done))
      exact WP.cg (lp49 (25 - (0)) (0) (fun k => V (25 * m + k)) _ (by omega) (fun k hk => absurd hk (Nat.not_lt_zero k)) (by first | rfl | assumption)) (lC1 (lI1 (by rfl) (lI1 (by rfl) (lC1 rfl)))) rfl (by rw [row_self])
  exact WP.cg (lp37 ((2 ^ T - 1) - (0)) (0) (N 329) (fun _ _ => 0) _ _ (by omega) (fun m h1 h2 => absurd h1 (by omega)) (fun p c h1 h2 _ => absurd h1 (by omega)) (by first | rfl | assumption) (by first | rfl | assumption)) (lC1 (lI1 (by rfl) (lC1 (lC1 rfl)))) rfl (by rw [upr_id])
theorem m_net0 {d : Nat} {K : Nat → Nat × Nat} {I : Nat → Nat → Int32} {L : Nat → Nat → Int64} {R : Nat → Nat → Option Nat} {n s : Nat} {Q : Lo → Lm → Prop} {tv : Nat → Nat} (hT : TK K R n) (h9 : I 318 9 = nI 0) (hT4 : 0 ≤ 400) (htp : TpW (I 324) tv) (hr : netB tv 0 0 = true) (kk : ∀ J, UsJ 0 I J → Q (.inl (some (.int (nI 0)))) (K, J, L, R, n, s)) : Ok (d + 4) 308 [.ref 318] (K, I, L, R, n, s) Q := by
  obtain ⟨-, -, hn⟩ := id hT
  refine Ok.enter (F := F_308) (ls := [.ref 318, lDead, lDead, lDead]) rfl rfl ?_
  refine wp_aload0 (pc' := 1) rfl rfl ?_
  refine wp_callV1 (pc' := 4) rfl rfl rfl rfl rfl (by first | exact TK.k1 hT rfl | exact TK.kk hT rfl | exact TK.r hT rfl | assumption) rfl rfl ?_
  refine m_usesN hT h9 (fun N hN => ?_)
  have htpN : TpW (N 324) tv := by rw [hN.1 324 (by decide)]; exact htp
  refine Cont.u ?_
  refine wp_aload0 (pc' := 5) rfl rfl ?_
  refine wp_aload0 (pc' := 6) rfl rfl ?_
  refine wp_callV1 (pc' := 9) rfl rfl rfl rfl rfl (by first | exact TK.k1 hT rfl | exact TK.kk hT rfl | exact TK.r hT rfl | assumption) rfl rfl ?_
  refine m_isNet hT hN.2.2.2.2.1 hT4 htpN ?_
  rw [if_pos hr]
  refine Cont.v ?_
  refine wp_ifneT rfl (by decide) ?_
  refine wp_iconst (v := nI 0) (pc' := 17) rfl rfl rfl ?_
  refine wp_iconst (v := nI 1) (pc' := 18) rfl rfl rfl ?_
  refine wp_callV3 (pc' := 21) rfl rfl rfl rfl rfl (by first | exact TK.k1 hT rfl | exact TK.kk hT rfl | exact TK.r hT rfl | assumption) rfl rfl ?_
  refine m_tfN hT ?_
  refine Cont.v ?_
  refine wp_ifeqT rfl rfl ?_
  refine wp_aload0 (pc' := 27) rfl rfl ?_
  refine wp_getI (pc' := 30) rfl rfl (by first | exact TK.k1 hT rfl | exact TK.kk hT rfl | exact TK.r hT rfl | assumption) rfl ?_
  rw [hN.2.2.2.2.1]
  refine wp_ifneF (pc' := 33) rfl rfl rfl ?_
  refine wp_iconst (v := nI 0) (pc' := 34) rfl rfl rfl ?_
  refine wp_iret rfl rfl rfl ?_
  exact kk N (us_mk hN (fun a ha => rfl))
theorem m_netE {d : Nat} {K : Nat → Nat × Nat} {I : Nat → Nat → Int32} {L : Nat → Nat → Int64} {R : Nat → Nat → Option Nat} {n s : Nat} {Q : Lo → Lm → Prop} {T : Nat} {tv : Nat → Nat} (hT : TK K R n) (h9 : I 318 9 = nI T) (hT4 : T ≤ 400) (htp : TpW (I 324) tv) (hr : netB tv T T = false) (kk : ∀ J, UsJ 1 I J → Q (.inl (some (.int (nI 0)))) (K, J, L, R, n, s)) : Ok (d + 4) 308 [.ref 318] (K, I, L, R, n, s) Q := by
  obtain ⟨-, -, hn⟩ := id hT
  refine Ok.enter (F := F_308) (ls := [.ref 318, lDead, lDead, lDead]) rfl rfl ?_
  refine wp_aload0 (pc' := 1) rfl rfl ?_
  refine wp_callV1 (pc' := 4) rfl rfl rfl rfl rfl (by first | exact TK.k1 hT rfl | exact TK.kk hT rfl | exact TK.r hT rfl | assumption) rfl rfl ?_
  refine m_usesN hT h9 (fun N hN => ?_)
  have htpN : TpW (N 324) tv := by rw [hN.1 324 (by decide)]; exact htp
  refine Cont.u ?_
  refine wp_aload0 (pc' := 5) rfl rfl ?_
  refine wp_aload0 (pc' := 6) rfl rfl ?_
  refine wp_callV1 (pc' := 9) rfl rfl rfl rfl rfl (by first | exact TK.k1 hT rfl | exact TK.kk hT rfl | exact TK.r hT rfl | assumption) rfl rfl ?_
  refine m_isNet hT hN.2.2.2.2.1 hT4 htpN ?_
  rw [if_neg (by rw [hr]; decide)]
  refine Cont.v ?_
  refine wp_ifneF (pc' := 12) rfl rfl rfl ?_
  refine wp_iconst (v := nI 1) (pc' := 13) rfl rfl rfl ?_
  refine wp_goto rfl ?_
  refine wp_iconst (v := nI 1) (pc' := 18) rfl rfl rfl ?_
  refine wp_callV3 (pc' := 21) rfl rfl rfl rfl rfl (by first | exact TK.k1 hT rfl | exact TK.kk hT rfl | exact TK.r hT rfl | assumption) rfl rfl ?_
  refine m_tfY hT ?_
  refine Cont.v ?_
  refine wp_ifeqF (pc' := 24) rfl (by decide) rfl ?_
  refine wp_iconst (v := nI 0) (pc' := 25) rfl rfl rfl ?_
  refine wp_iret rfl rfl rfl ?_
  exact kk _ (us_thr hN)
