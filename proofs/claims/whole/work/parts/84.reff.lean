/-! THE REFERENCE: costs, until they stay -/
def Adm (st us g : Nat → Nat) : Prop := (∀ q, q < 25 → g q ≤ st q) ∧ ∀ c q, c < 25 → q < 25 → hasP (besB c) q → g c ≤ g q + us c
def sNt (a : Nat → Nat) : Nat → Nat
  | 0 => 0
  | i + 1 => sNt a i + a i
theorem sNt_same {a b : Nat → Nat} : ∀ i, (∀ q, q < i → a q = b q) → sNt a i = sNt b i
  | 0 => fun _ => rfl
  | i + 1 => fun h => by show sNt a i + a i = sNt b i + b i; rw [sNt_same i (fun q hq => h q (by omega)), h i (by omega)]
theorem sNt_up {a : Nat → Nat} {q x : Nat} : ∀ i, q < i → sNt (up1 a q x) i + a q = sNt a i + x
  | 0 => fun h => absurd h (Nat.not_lt_zero q)
  | i + 1 => fun h => by
    show sNt (up1 a q x) i + up1 a q x i + a q = sNt a i + a i + x
    by_cases e : q = i
    · subst e
      rw [up1_hit, sNt_same (a := up1 a q x) (b := a) q (fun p hp => up1_ne (by omega))]; omega
    · have := sNt_up (a := a) (x := x) i (by omega : q < i)
      rw [up1_ne (show i ≠ q by omega)]; omega
def OutI (st us : Nat → Nat) (v : Nat → Int32) (a : Nat → Nat) : Prop := CoR v a ∧ (∀ g, Adm st us g → ∀ q, q < 25 → g q ≤ a q) ∧ ∀ q, q < 25 → a q ≤ st q
def PasI (st us a : Nat → Nat) (i : Nat) (w : Nat → Int32) (b : Nat → Nat) (e : Bool) : Prop := OutI st us w b ∧ (e = false → (∀ q, q < 25 → b q = a q) ∧ ∀ q p, q < i → p < 25 → hasP (besB q) p → a q ≤ a p + us q) ∧ sNt b 25 + (if e = true then 1 else 0) ≤ sNt a 25
theorem PasI_0 {st us a : Nat → Nat} {w : Nat → Int32} (h : OutI st us w a) : PasI st us a 0 w a false :=
  ⟨h, fun _ => ⟨fun _ _ => rfl, fun q p hq => absurd hq (Nat.not_lt_zero q)⟩, Nat.le_refl _⟩
theorem PasI_s {st us a : Nat → Nat} {i : Nat} {w : Nat → Int32} {b : Nat → Nat} {e : Bool} (hi : i < 25) (h : PasI st us a i w b e) : PasI st us a (i + 1) (up1 w i (nI (lesN b (us i) i 25))) (up1 b i (lesN b (us i) i 25)) (e || decide (lesN b (us i) i 25 < b i)) := by
  obtain ⟨⟨h1, h2, h3⟩, h4, h5⟩ := h
  have hx := lesN_le (a := b) (u := us i) (c := i) 25
  have hs := sNt_up (a := b) (q := i) (x := lesN b (us i) i 25) 25 hi
  have hby : ∀ p, p < 25 → hasP (besB i) p → lesN b (us i) i 25 ≤ b p + us i := fun p hp hh => lesN_by hh 25 hp
  have hge : ∀ g, Adm st us g → g i ≤ lesN b (us i) i 25 := fun g hg => lesN_ge (h2 g hg i hi) (fun q hq hh => Nat.le_trans (hg.2 i q hi hq hh) (Nat.add_le_add_right (h2 g hg q hq) _)) 25 (Nat.le_refl _)
  obtain ⟨x, hxe⟩ : ∃ x, lesN b (us i) i 25 = x := ⟨_, rfl⟩
  rw [hxe] at hx hs hby hge ⊢
  refine ⟨⟨fun q hq => ?_, fun g hg q hq => ?_, fun q hq => ?_⟩, fun he => ?_, ?_⟩
  · by_cases e : q = i
    · subst e; rw [up1_hit, up1_hit]; exact ⟨rfl, Nat.le_trans hx (h1 q hq).2⟩
    · rw [up1_ne e, up1_ne e]; exact h1 q hq
  · by_cases e : q = i
    · subst e; rw [up1_hit]; exact hge g hg
    · rw [up1_ne e]; exact h2 g hg q hq
  · by_cases e : q = i
    · subst e; rw [up1_hit]; exact Nat.le_trans hx (h3 q hq)
    · rw [up1_ne e]; exact h3 q hq
  · rw [Bool.or_eq_false_iff] at he
    obtain ⟨hb, hqq⟩ := h4 he.1
    have hn := of_decide_eq_false he.2
    have hxi : x = b i := by omega
    refine ⟨fun q hq5 => ?_, fun q p hq1 hp hh => ?_⟩
    · by_cases e : q = i
      · subst e; rw [up1_hit, hxi]; exact hb q hq5
      · rw [up1_ne e]; exact hb q hq5
    · by_cases e : q = i
      · subst e
        have := hby p hp hh
        rw [hxi, hb q hi, hb p hp] at this
        exact this
      · exact hqq q p (by omega) hp hh
  · by_cases hlt : x < b i
    · rw [decide_eq_true hlt, Bool.or_true, if_pos rfl]
      have : sNt b 25 ≤ sNt a 25 := Nat.le_trans (Nat.le_add_right _ _) h5
      omega
    · rw [decide_eq_false hlt, Bool.or_false]
      have : sNt (up1 b i x) 25 = sNt b 25 := by omega
      rw [this]; exact h5
theorem PasI_end {st us a : Nat → Nat} {w : Nat → Int32} {b : Nat → Nat} {e : Bool} (h : PasI st us a 25 w b e) : OutI st us w b ∧ (e = false → Adm st us b) ∧ sNt b 25 + (if e = true then 1 else 0) ≤ sNt a 25 :=
  ⟨h.1, fun he => ⟨h.1.2.2, fun c q hc hq hh => by rw [(h.2.1 he).1 c hc, (h.2.1 he).1 q hq]; exact (h.2.1 he).2 c q hc hq hh⟩, h.2.2⟩
theorem flag_or {e : Bool} {p : Prop} [Decidable p] : (if e = true then nI 1 else nI 0) ||| (if p then nI 1 else nI 0) = if (e || decide p) = true then nI 1 else nI 0 := by
  cases e <;> by_cases h : p <;> simp [h] <;> decide
/-- the greatest row under the start that no step makes less -/
def FixI (st us a : Nat → Nat) : Prop := Adm st us a ∧ ∀ g, Adm st us g → ∀ q, q < 25 → g q ≤ a q
def ditU (dr : Nat → Nat) (q : Nat) : Nat := 1 - dr q
def ditK (dr : Nat → Nat) (q : Nat) : Nat := if q = 24 then 1 - dr q else 100000000

theorem m_ditchOf {d : Nat} {K : Nat → Nat × Nat} {I : Nat → Nat → Int32} {L : Nat → Nat → Int64} {R : Nat → Nat → Option Nat} {n s : Nat} {Q : Lo → Lm → Prop} {dr : Nat → Nat} {c : Nat} (hT : TK K R n) (hc : c < 25) (hdr : ∀ q, q < 25 → I 319 (9 + 6 * q + 2) = nI (dr q) ∧ dr q ≤ 1) (kk : ∀ a v, FixI (ditK dr) (ditU dr) a → Q (.inl (some (.int (nI (a c))))) (K, upr I 328 v, L, R, n, s)) : Ok (d + 3) 271 [.ref 318, .int (nI c)] (K, I, L, R, n, s) Q := by
  obtain ⟨-, -, hn⟩ := id hT
  refine Ok.enter (F := F_271) (ls := [.ref 318, .int (nI c), lDead, lDead]) rfl rfl ?_
  refine wp_iconst (v := nI 0) (pc' := 1) rfl rfl rfl ?_
  refine wp_istore2 (pc' := 2) rfl (by first | rfl | assumption) rfl ?_
  have lp2 : ∀ r (i : Nat), i + r = 25 → WP (d + 2) F_271 2 [.ref 318, .int (nI c), .int (nI i), lDead] [] (K, upr I 328 (cpy i (fun q => nI (ditK dr q)) (I 328)), L, R, n, s) Q := by
    intro r; induction r with
    | zero =>
      intro i hi 
      have hi2 : i = 25 := by omega
      subst hi2
      refine wp_iload2 (pc' := 3) rfl rfl ?_
      refine wp_bipush (v := nI 25) (pc' := 5) rfl rfl rfl ?_
      refine wp_icmpgeT rfl (nI_nlt (by omega) (by omega)) ?_
      have hst : OutI (ditK dr) (ditU dr) (cpy 25 (fun q => nI (ditK dr q)) (I 328)) (ditK dr) := ⟨fun q hq => ⟨cpy_lt hq, by unfold ditK; split <;> omega⟩, fun g hg => hg.1, fun q _ => Nat.le_refl _⟩
      refine wp_iconst (v := nI 1) (pc' := 40) rfl rfl rfl ?_
      refine wp_istore2 (pc' := 41) rfl (by first | rfl | assumption) rfl ?_
      have lp41 : ∀ rb (v : Nat → Int32) (a : Nat → Nat) (f : Bool) (v3 : Value), sNt a 25 + (if f = true then 1 else 0) ≤ rb → OutI (ditK dr) (ditU dr) v a → (f = false → Adm (ditK dr) (ditU dr) a) → WP (d + 2) F_271 41 [.ref 318, .int (nI c), .int (if f = true then nI 1 else nI 0), v3] [] (K, upr I 328 v, L, R, n, s) Q := by
        intro rb; induction rb with
        | zero =>
          intro v a f v3 hib hvb0 hvb1
          obtain rfl : f = false := by cases f; rfl; exact absurd hib (by rw [if_pos rfl]; omega)
          refine wp_iload2 (pc' := 42) rfl rfl ?_
          refine wp_ifeqT rfl rfl ?_
          refine wp_aload0 (pc' := 81) rfl rfl ?_
          refine wp_getRF (pc' := 84) rfl rfl (by first | exact TK.k1 hT rfl | exact TK.kk hT rfl | exact TK.r hT rfl | assumption) (by first | exact TK.k1 hT rfl | exact TK.kk hT rfl | exact TK.r hT rfl | assumption) rfl ?_
          refine wp_iload1 (pc' := 85) rfl rfl ?_
          refine wp_iald _ (pc' := 86) rfl (by first | exact TK.k1 hT rfl | exact TK.kk hT rfl | exact TK.r hT rfl | assumption) (by with_reducible rfl) (by omega) (by first | decide | assumption | omega) rfl ?_
          refine wp_iret rfl rfl rfl ?_
          rw [upr_same, (hvb0.1 c hc).1]
          first | exact kk a v ⟨hvb1 rfl, hvb0.2.1⟩ | exact kk a v ⟨hvb1 (Bool.eq_false_iff.mpr h42), hvb0.2.1⟩
        | succ rb ihb =>
          intro v a f v3 hib hvb0 hvb1
          refine wp_iload2 (pc' := 42) rfl rfl ?_
          first | refine wp_ifeqB (pc' := 45) rfl rfl ?_ ?_ | refine wp_ifeq (pc' := 45) rfl rfl ?_ ?_
          · intro h42
            refine wp_aload0 (pc' := 81) rfl rfl ?_
            refine wp_getRF (pc' := 84) rfl rfl (by first | exact TK.k1 hT rfl | exact TK.kk hT rfl | exact TK.r hT rfl | assumption) (by first | exact TK.k1 hT rfl | exact TK.kk hT rfl | exact TK.r hT rfl | assumption) rfl ?_
            refine wp_iload1 (pc' := 85) rfl rfl ?_
            refine wp_iald _ (pc' := 86) rfl (by first | exact TK.k1 hT rfl | exact TK.kk hT rfl | exact TK.r hT rfl | assumption) (by with_reducible rfl) (by omega) (by first | decide | assumption | omega) rfl ?_
            refine wp_iret rfl rfl rfl ?_
            rw [upr_same, (hvb0.1 c hc).1]
            first | exact kk a v ⟨hvb1 rfl, hvb0.2.1⟩ | exact kk a v ⟨hvb1 (Bool.eq_false_iff.mpr h42), hvb0.2.1⟩
          · intro h42
            refine wp_iconst (v := nI 0) (pc' := 46) rfl rfl rfl ?_
            refine wp_istore2 (pc' := 47) rfl (by first | rfl | assumption) rfl ?_
            refine wp_iconst (v := nI 0) (pc' := 48) rfl rfl rfl ?_
            refine wp_istore3 (pc' := 49) rfl (by first | rfl | assumption) rfl ?_
            have lp49 : ∀ rc (i : Nat) (w : Nat → Int32) (b : Nat → Nat) (e : Bool), i + rc = 25 → PasI (ditK dr) (ditU dr) a i w b e → WP (d + 2) F_271 49 [.ref 318, .int (nI c), .int (if e = true then nI 1 else nI 0), .int (nI i)] [] (K, upr I 328 w, L, R, n, s) Q := by
              intro rc; induction rc with
              | zero =>
                intro i w b e hic hvc0
                have hi2c : i = 25 := by omega
                subst hi2c
                refine wp_iload3 (pc' := 50) rfl rfl ?_
                refine wp_bipush (v := nI 25) (pc' := 52) rfl rfl rfl ?_
                refine wp_icmpgeT rfl (nI_nlt (by omega) (by omega)) ?_
                refine wp_goto rfl ?_
                exact WP.cg (ihb w b e _ (by have := (PasI_end hvc0).2.2; rw [if_pos h42] at hib; omega) (PasI_end hvc0).1 (PasI_end hvc0).2.1) (lC1 (lI1 (by rfl) (lI1 (by rfl) (lC1 rfl)))) rfl (by rfl)
              | succ rc ihc =>
                intro i w b e hic hvc0
                have hltc : i < 25 := by omega
                have hd1 := (hdr i (by omega)).2
                refine wp_iload3 (pc' := 50) rfl rfl ?_
                refine wp_bipush (v := nI 25) (pc' := 52) rfl rfl rfl ?_
                refine wp_icmpgeF (pc' := 55) rfl (nI_lt (by omega) (by omega)) rfl ?_
                refine wp_iload2 (pc' := 56) rfl rfl ?_
                refine wp_aload0 (pc' := 57) rfl rfl ?_
                refine wp_iload3 (pc' := 58) rfl rfl ?_
                refine wp_iconst (v := nI 1) (pc' := 59) rfl rfl rfl ?_
                refine wp_aload0 (pc' := 60) rfl rfl ?_
                refine wp_iload3 (pc' := 61) rfl rfl ?_
                refine wp_iconst (v := nI 2) (pc' := 62) rfl rfl rfl ?_
                refine wp_callV3 (pc' := 65) rfl rfl rfl rfl rfl (by first | exact TK.k1 hT rfl | exact TK.kk hT rfl | exact TK.r hT rfl | assumption) rfl rfl ?_
                refine m_of hT (by omega) (by decide) ?_
                rw [upr_ne (show (319 : Nat) ≠ 328 by decide), (hdr _ (by omega)).1]
                refine Cont.v ?_
                first | refine wp_isubN (pc' := 66) rfl (by with_reducible rfl) (by with_reducible rfl) (by omega) rfl ?_ | refine wp_isub (pc' := 66) rfl rfl ?_
                refine wp_callV3 (pc' := 69) rfl rfl rfl rfl rfl (by first | exact TK.k1 hT rfl | exact TK.kk hT rfl | exact TK.r hT rfl | assumption) rfl rfl ?_
                refine m_isLessBy (a := b) (u := ditU dr i) hT (by omega) (by rw [upr_same]; exact hvc0.1.1) (by unfold ditU; omega) ?_
                rw [up2_upr]
                refine Cont.v ?_
                refine wp_ior (pc' := 70) rfl rfl ?_
                refine wp_istore2 (pc' := 71) rfl (by first | rfl | assumption) rfl ?_
                first | refine wp_iinc3 (w := nI 1) (pc' := 74) rfl rfl rfl (by with_reducible exact nI_add _ _) rfl ?_ | refine wp_iinc3 (w := nI 1) (pc' := 74) rfl rfl rfl rfl rfl ?_
                refine wp_goto rfl ?_
                exact WP.cg (ihc (i + 1) _ _ _ (by omega) (PasI_s (by omega) hvc0)) (lC1 (lI1 (by first | with_reducible rfl | with_reducible exact flag_or) (lI1 (by first | with_reducible rfl | with_reducible exact flag_or) (lI1 (by first | with_reducible rfl | with_reducible exact flag_or) rfl)))) rfl (by rfl)
            exact WP.cg (lp49 (25 - (0)) (0) v a false (by omega) (PasI_0 hvb0)) (lC1 (lI1 (by rfl) (lI1 (by rfl) (lI1 (by rfl) rfl)))) rfl (by rfl)
      exact WP.cg (lp41 _ _ (ditK dr) true _ (Nat.le_refl _) hst (fun e => absurd e (by decide))) (lC1 (lI1 (by rfl) (lI1 (by rfl) (lC1 rfl)))) rfl (by rfl)
    | succ r ih =>
      intro i hi 
      have hlt : i < 25 := by omega
      have hd1 := (hdr i (by omega)).2
      refine wp_iload2 (pc' := 3) rfl rfl ?_
      refine wp_bipush (v := nI 25) (pc' := 5) rfl rfl rfl ?_
      refine wp_icmpgeF (pc' := 8) rfl (nI_lt (by omega) (by omega)) rfl ?_
      refine wp_aload0 (pc' := 9) rfl rfl ?_
      refine wp_getRF (pc' := 12) rfl rfl (by first | exact TK.k1 hT rfl | exact TK.kk hT rfl | exact TK.r hT rfl | assumption) (by first | exact TK.k1 hT rfl | exact TK.kk hT rfl | exact TK.r hT rfl | assumption) rfl ?_
      refine wp_iload2 (pc' := 13) rfl rfl ?_
      refine wp_iload2 (pc' := 14) rfl rfl ?_
      refine wp_bipush (v := nI 24) (pc' := 16) rfl rfl rfl ?_
      refine wp_icmpne (pc' := 19) rfl rfl ?_ ?_
      · intro h16
        refine wp_pool (v := .int (nI 100000000)) (pc' := 32) rfl rfl rfl rfl rfl ?_
        refine wp_iast _ (pc' := 33) rfl (by first | exact TK.k1 hT rfl | exact TK.kk hT rfl | exact TK.r hT rfl | assumption) (by omega) (by with_reducible rfl) (by omega) (by first | decide | assumption | omega) rfl ?_
        first | refine wp_iinc2 (w := nI 1) (pc' := 36) rfl rfl rfl (by with_reducible exact nI_add _ _) rfl ?_ | refine wp_iinc2 (w := nI 1) (pc' := 36) rfl rfl rfl rfl rfl ?_
        refine wp_goto rfl ?_
        exact WP.cg (ih (i + 1) (by omega)) (lC1 (lI1 (by rfl) (lI1 (by rfl) (lC1 rfl)))) rfl (by rw [up2_upr, ← cpy_up]; first | (rw [show ditK dr i = 1 - dr i from if_pos ((nI_eq (by omega) (by decide)).mp h16)]; done) | (rw [show ditK dr i = 100000000 from if_neg (fun e => h16 (by rw [e]))]; done))
      · intro h16
        refine wp_iconst (v := nI 1) (pc' := 20) rfl rfl rfl ?_
        refine wp_aload0 (pc' := 21) rfl rfl ?_
        refine wp_iload2 (pc' := 22) rfl rfl ?_
        refine wp_iconst (v := nI 2) (pc' := 23) rfl rfl rfl ?_
        refine wp_callV3 (pc' := 26) rfl rfl rfl rfl rfl (by first | exact TK.k1 hT rfl | exact TK.kk hT rfl | exact TK.r hT rfl | assumption) rfl rfl ?_
        refine m_of hT (by omega) (by decide) ?_
        rw [upr_ne (show (319 : Nat) ≠ 328 by decide), (hdr _ (by omega)).1]
        refine Cont.v ?_
        first | refine wp_isubN (pc' := 27) rfl (by with_reducible rfl) (by with_reducible rfl) (by omega) rfl ?_ | refine wp_isub (pc' := 27) rfl rfl ?_
        refine wp_goto rfl ?_
        refine wp_iast _ (pc' := 33) rfl (by first | exact TK.k1 hT rfl | exact TK.kk hT rfl | exact TK.r hT rfl | assumption) (by omega) (by with_reducible rfl) (by omega) (by first | decide | assumption | omega) rfl ?_
        first | refine wp_iinc2 (w := nI 1) (pc' := 36) rfl rfl rfl (by with_reducible exact nI_add _ _) rfl ?_ | refine wp_iinc2 (w := nI 1) (pc' := 36) rfl rfl rfl rfl rfl ?_
        refine wp_goto rfl ?_
        exact WP.cg (ih (i + 1) (by omega)) (lC1 (lI1 (by rfl) (lI1 (by rfl) (lC1 rfl)))) rfl (by rw [up2_upr, ← cpy_up]; first | (rw [show ditK dr i = 1 - dr i from if_pos ((nI_eq (by omega) (by decide)).mp h16)]; done) | (rw [show ditK dr i = 100000000 from if_neg (fun e => h16 (by rw [e]))]; done))
  exact WP.cg (lp2 (25 - (0)) (0) (by omega)) (lC1 (lI1 (by rfl) (lI1 (by rfl) (lC1 rfl)))) rfl (by rw [cpy_0, upr_id])
