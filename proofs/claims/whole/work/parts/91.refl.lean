/-! THE REFERENCE: the lowest bit, pieces, odds, stores made even -/
def lowB (x : Int32) : Nat → Nat → Nat
  | 0, i => i
  | r + 1, i => if btI x i = true then i else lowB x r (i + 1)
abbrev lo1 (x : Int32) : Nat := lowB x 25 0
theorem lowB_spec {x : Int32} : ∀ r i, (∃ c, i ≤ c ∧ c < i + r ∧ btI x c = true) → i ≤ lowB x r i ∧ lowB x r i < i + r ∧ btI x (lowB x r i) = true ∧ ∀ j, i ≤ j → j < lowB x r i → btI x j = false
  | 0, i => fun ⟨c, h1, h2, _⟩ => absurd h2 (by omega)
  | r + 1, i => fun ⟨c, h1, h2, h3⟩ => by
    rw [lowB]
    by_cases e : btI x i = true
    · rw [if_pos e]; exact ⟨Nat.le_refl _, by omega, e, fun j hj hj2 => absurd hj (by omega)⟩
    · rw [if_neg e]
      have hci : c ≠ i := fun q => e (by rw [← q]; exact h3)
      obtain ⟨a1, a2, a3, a4⟩ := lowB_spec r (i + 1) ⟨c, by omega, by omega, h3⟩
      refine ⟨by omega, by omega, a3, fun j hj hj2 => ?_⟩
      by_cases q : j = i
      · rw [q]; exact Bool.eq_false_iff.mpr e
      · exact a4 j (by omega) hj2
theorem lo1_spec {x : Int32} (hx : low25 x) (h0 : ¬ x = nI 0) : lo1 x < 25 ∧ btI x (lo1 x) = true ∧ ∀ j, j < lo1 x → btI x j = false := by
  obtain ⟨c, hc, h1⟩ := some_bt hx h0
  obtain ⟨-, a2, a3, a4⟩ := lowB_spec (x := x) 25 0 ⟨c, by omega, by omega, h1⟩
  exact ⟨by omega, a3, fun j hj => a4 j (by omega) hj⟩
theorem bt_neg (x : Int32) {i : Nat} (hi : i < 32) : btI (-x) i = (btI x i ^^ decide (∃ j < i, btI x j = true)) := by
  unfold btI
  rw [Int32.toBitVec_neg, BitVec.getLsbD_neg, decide_eq_true hi, Bool.true_and]
theorem bt_pred (x : Int32) {i : Nat} (hi : i < 32) : btI (x - nI 1) i = !(btI x i ^^ decide (∃ j < i, btI x j = true)) := by
  rw [← bt_neg x hi]
  unfold btI
  rw [Int32.toBitVec_sub, show (nI 1).toBitVec = 1#32 from rfl, ← BitVec.not_neg, Int32.toBitVec_neg, BitVec.getLsbD_not, decide_eq_true hi, Bool.true_and]
theorem bt_pow : ∀ c, c < 25 → ∀ i, i < 32 → btI (nI (2 ^ c - 1)) i = decide (i < c) := by decide +kernel
theorem low_ex {x : Int32} {c i : Nat} (h1 : btI x c = true) (h2 : ∀ j, j < c → btI x j = false) : decide (∃ j < i, btI x j = true) = decide (c < i) := by
  apply bool_eq
  rw [decide_eq_true_iff, decide_eq_true_iff]
  constructor
  · rintro ⟨j, hj, hb⟩
    apply Classical.byContradiction
    intro hn
    rw [h2 j (by omega)] at hb
    exact absurd hb (by decide)
  · intro h; exact ⟨c, h, h1⟩
theorem ntz_arg {x : Int32} {c : Nat} (hc : c < 25) (h1 : btI x c = true) (h2 : ∀ j, j < c → btI x j = false) : (x ^^^ (-1)) &&& (x - nI 1) = nI (2 ^ c - 1) := by
  apply b_ext
  intro i hi
  rw [b_and, bt_nt hi, bt_pred x hi, bt_pow c hc i hi, low_ex h1 h2]
  rcases Nat.lt_trichotomy i c with h | h | h
  · rw [h2 i h, decide_eq_true h, decide_eq_false (by omega : ¬ c < i)]; rfl
  · subst h; rw [h1]; simp
  · rw [decide_eq_false (by omega : ¬ i < c), decide_eq_true h]; cases btI x i <;> rfl
theorem low_bit {x : Int32} {c : Nat} (hc : c < 25) (h1 : btI x c = true) (h2 : ∀ j, j < c → btI x j = false) : x &&& -x = jshl (nI 1) (nI c) := by
  apply b_ext
  intro i hi
  rw [b_and, bt_neg x hi, bt_s1 c (by omega) i hi, low_ex h1 h2]
  rcases Nat.lt_trichotomy i c with h | h | h
  · rw [h2 i h, decide_eq_false (by omega : ¬ i = c)]; rfl
  · subst h; rw [h1]; simp
  · rw [decide_eq_false (by omega : ¬ i = c), decide_eq_true h]; cases btI x i <;> rfl

theorem m_ntz_0 {d : Nat} {K : Nat → Nat × Nat} {I : Nat → Nat → Int32} {L : Nat → Nat → Int64} {R : Nat → Nat → Option Nat} {n s : Nat} {Q : Lo → Lm → Prop} {x : Int32} (hx : (x ^^^ (-1)) &&& (x - nI 1) = nI (2 ^ 0 - 1)) (kk : Q (.inl (some (.int (nI 0)))) (K, I, L, R, n, s)) : Ok (d + 1) 310 [.int x] (K, I, L, R, n, s) Q := by
  refine Ok.enter (F := F_310) (ls := [.int x, lDead]) rfl rfl ?_
  refine wp_iload0 (pc' := 1) rfl rfl ?_
  refine wp_iconst (v := (-1)) (pc' := 2) rfl rfl rfl ?_
  refine wp_ixor (pc' := 3) rfl rfl ?_
  refine wp_iload0 (pc' := 4) rfl rfl ?_
  refine wp_iconst (v := nI 1) (pc' := 5) rfl rfl rfl ?_
  first | refine wp_isubN (pc' := 6) rfl (by with_reducible rfl) (by with_reducible rfl) (by omega) rfl ?_ | refine wp_isub (pc' := 6) rfl rfl ?_
  refine wp_iand (pc' := 7) rfl rfl ?_
  rw [hx]
  refine wp_istore0 (pc' := 8) rfl rfl ?_
  refine wp_iload0 (pc' := 9) rfl rfl ?_
  refine wp_ifgtF (pc' := 12) rfl (by decide) rfl ?_
  refine wp_iload0 (pc' := 13) rfl rfl ?_
  refine wp_bipush (v := nI 32) (pc' := 15) rfl rfl rfl ?_
  refine wp_iand (pc' := 16) rfl rfl ?_
  refine wp_iret rfl rfl rfl ?_
  exact Qv kk (by decide +kernel) rfl
theorem m_ntz_1 {d : Nat} {K : Nat → Nat × Nat} {I : Nat → Nat → Int32} {L : Nat → Nat → Int64} {R : Nat → Nat → Option Nat} {n s : Nat} {Q : Lo → Lm → Prop} {x : Int32} (hx : (x ^^^ (-1)) &&& (x - nI 1) = nI (2 ^ 1 - 1)) (kk : Q (.inl (some (.int (nI 1)))) (K, I, L, R, n, s)) : Ok (d + 1) 310 [.int x] (K, I, L, R, n, s) Q := by
  refine Ok.enter (F := F_310) (ls := [.int x, lDead]) rfl rfl ?_
  refine wp_iload0 (pc' := 1) rfl rfl ?_
  refine wp_iconst (v := (-1)) (pc' := 2) rfl rfl rfl ?_
  refine wp_ixor (pc' := 3) rfl rfl ?_
  refine wp_iload0 (pc' := 4) rfl rfl ?_
  refine wp_iconst (v := nI 1) (pc' := 5) rfl rfl rfl ?_
  first | refine wp_isubN (pc' := 6) rfl (by with_reducible rfl) (by with_reducible rfl) (by omega) rfl ?_ | refine wp_isub (pc' := 6) rfl rfl ?_
  refine wp_iand (pc' := 7) rfl rfl ?_
  rw [hx]
  refine wp_istore0 (pc' := 8) rfl rfl ?_
  refine wp_iload0 (pc' := 9) rfl rfl ?_
  refine wp_ifgtT rfl (by decide +kernel) ?_
  refine wp_iconst (v := nI 1) (pc' := 18) rfl rfl rfl ?_
  refine wp_istore1 (pc' := 19) rfl (by first | rfl | assumption) rfl ?_
  refine wp_iload0 (pc' := 20) rfl rfl ?_
  refine wp_pool (v := .int (nI 65536)) (pc' := 23) rfl rfl rfl rfl rfl ?_
  refine wp_icmpleT rfl (by decide +kernel) ?_
  refine wp_iload0 (pc' := 35) rfl rfl ?_
  refine wp_sipush (v := nI 256) (pc' := 38) rfl rfl rfl ?_
  refine wp_icmpleT rfl (by decide +kernel) ?_
  refine wp_iload0 (pc' := 50) rfl rfl ?_
  refine wp_bipush (v := nI 16) (pc' := 52) rfl rfl rfl ?_
  refine wp_icmpleT rfl (by decide +kernel) ?_
  refine wp_iload0 (pc' := 63) rfl rfl ?_
  refine wp_iconst (v := nI 4) (pc' := 64) rfl rfl rfl ?_
  refine wp_icmpleT rfl (by decide +kernel) ?_
  refine wp_iload1 (pc' := 75) rfl rfl ?_
  refine wp_iload0 (pc' := 76) rfl rfl ?_
  refine wp_iconst (v := nI 1) (pc' := 77) rfl rfl rfl ?_
  refine wp_iushr (pc' := 78) rfl rfl ?_
  first | refine wp_iaddN (pc' := 79) rfl (by with_reducible rfl) (by with_reducible rfl) rfl ?_ | refine wp_iadd (pc' := 79) rfl rfl ?_
  refine wp_iret rfl rfl rfl ?_
  exact Qv kk (by decide +kernel) rfl
theorem m_ntz_2 {d : Nat} {K : Nat → Nat × Nat} {I : Nat → Nat → Int32} {L : Nat → Nat → Int64} {R : Nat → Nat → Option Nat} {n s : Nat} {Q : Lo → Lm → Prop} {x : Int32} (hx : (x ^^^ (-1)) &&& (x - nI 1) = nI (2 ^ 2 - 1)) (kk : Q (.inl (some (.int (nI 2)))) (K, I, L, R, n, s)) : Ok (d + 1) 310 [.int x] (K, I, L, R, n, s) Q := by
  refine Ok.enter (F := F_310) (ls := [.int x, lDead]) rfl rfl ?_
  refine wp_iload0 (pc' := 1) rfl rfl ?_
  refine wp_iconst (v := (-1)) (pc' := 2) rfl rfl rfl ?_
  refine wp_ixor (pc' := 3) rfl rfl ?_
  refine wp_iload0 (pc' := 4) rfl rfl ?_
  refine wp_iconst (v := nI 1) (pc' := 5) rfl rfl rfl ?_
  first | refine wp_isubN (pc' := 6) rfl (by with_reducible rfl) (by with_reducible rfl) (by omega) rfl ?_ | refine wp_isub (pc' := 6) rfl rfl ?_
  refine wp_iand (pc' := 7) rfl rfl ?_
  rw [hx]
  refine wp_istore0 (pc' := 8) rfl rfl ?_
  refine wp_iload0 (pc' := 9) rfl rfl ?_
  refine wp_ifgtT rfl (by decide +kernel) ?_
  refine wp_iconst (v := nI 1) (pc' := 18) rfl rfl rfl ?_
  refine wp_istore1 (pc' := 19) rfl (by first | rfl | assumption) rfl ?_
  refine wp_iload0 (pc' := 20) rfl rfl ?_
  refine wp_pool (v := .int (nI 65536)) (pc' := 23) rfl rfl rfl rfl rfl ?_
  refine wp_icmpleT rfl (by decide +kernel) ?_
  refine wp_iload0 (pc' := 35) rfl rfl ?_
  refine wp_sipush (v := nI 256) (pc' := 38) rfl rfl rfl ?_
  refine wp_icmpleT rfl (by decide +kernel) ?_
  refine wp_iload0 (pc' := 50) rfl rfl ?_
  refine wp_bipush (v := nI 16) (pc' := 52) rfl rfl rfl ?_
  refine wp_icmpleT rfl (by decide +kernel) ?_
  refine wp_iload0 (pc' := 63) rfl rfl ?_
  refine wp_iconst (v := nI 4) (pc' := 64) rfl rfl rfl ?_
  refine wp_icmpleT rfl (by decide +kernel) ?_
  refine wp_iload1 (pc' := 75) rfl rfl ?_
  refine wp_iload0 (pc' := 76) rfl rfl ?_
  refine wp_iconst (v := nI 1) (pc' := 77) rfl rfl rfl ?_
  refine wp_iushr (pc' := 78) rfl rfl ?_
  first | refine wp_iaddN (pc' := 79) rfl (by with_reducible rfl) (by with_reducible rfl) rfl ?_ | refine wp_iadd (pc' := 79) rfl rfl ?_
  refine wp_iret rfl rfl rfl ?_
  exact Qv kk (by decide +kernel) rfl
theorem m_ntz_3 {d : Nat} {K : Nat → Nat × Nat} {I : Nat → Nat → Int32} {L : Nat → Nat → Int64} {R : Nat → Nat → Option Nat} {n s : Nat} {Q : Lo → Lm → Prop} {x : Int32} (hx : (x ^^^ (-1)) &&& (x - nI 1) = nI (2 ^ 3 - 1)) (kk : Q (.inl (some (.int (nI 3)))) (K, I, L, R, n, s)) : Ok (d + 1) 310 [.int x] (K, I, L, R, n, s) Q := by
  refine Ok.enter (F := F_310) (ls := [.int x, lDead]) rfl rfl ?_
  refine wp_iload0 (pc' := 1) rfl rfl ?_
  refine wp_iconst (v := (-1)) (pc' := 2) rfl rfl rfl ?_
  refine wp_ixor (pc' := 3) rfl rfl ?_
  refine wp_iload0 (pc' := 4) rfl rfl ?_
  refine wp_iconst (v := nI 1) (pc' := 5) rfl rfl rfl ?_
  first | refine wp_isubN (pc' := 6) rfl (by with_reducible rfl) (by with_reducible rfl) (by omega) rfl ?_ | refine wp_isub (pc' := 6) rfl rfl ?_
  refine wp_iand (pc' := 7) rfl rfl ?_
  rw [hx]
  refine wp_istore0 (pc' := 8) rfl rfl ?_
  refine wp_iload0 (pc' := 9) rfl rfl ?_
  refine wp_ifgtT rfl (by decide +kernel) ?_
  refine wp_iconst (v := nI 1) (pc' := 18) rfl rfl rfl ?_
  refine wp_istore1 (pc' := 19) rfl (by first | rfl | assumption) rfl ?_
  refine wp_iload0 (pc' := 20) rfl rfl ?_
  refine wp_pool (v := .int (nI 65536)) (pc' := 23) rfl rfl rfl rfl rfl ?_
  refine wp_icmpleT rfl (by decide +kernel) ?_
  refine wp_iload0 (pc' := 35) rfl rfl ?_
  refine wp_sipush (v := nI 256) (pc' := 38) rfl rfl rfl ?_
  refine wp_icmpleT rfl (by decide +kernel) ?_
  refine wp_iload0 (pc' := 50) rfl rfl ?_
  refine wp_bipush (v := nI 16) (pc' := 52) rfl rfl rfl ?_
  refine wp_icmpleT rfl (by decide +kernel) ?_
  refine wp_iload0 (pc' := 63) rfl rfl ?_
  refine wp_iconst (v := nI 4) (pc' := 64) rfl rfl rfl ?_
  refine wp_icmpleF (pc' := 67) rfl (by decide +kernel) rfl ?_
  first | refine wp_iinc1 (w := nI 2) (pc' := 70) rfl rfl rfl (by with_reducible exact nI_add _ _) rfl ?_ | refine wp_iinc1 (w := nI 2) (pc' := 70) rfl rfl rfl rfl rfl ?_
  refine wp_iload0 (pc' := 71) rfl rfl ?_
  refine wp_iconst (v := nI 2) (pc' := 72) rfl rfl rfl ?_
  refine wp_iushr (pc' := 73) rfl rfl ?_
  refine wp_istore0 (pc' := 74) rfl rfl ?_
  refine wp_iload1 (pc' := 75) rfl rfl ?_
  refine wp_iload0 (pc' := 76) rfl rfl ?_
  refine wp_iconst (v := nI 1) (pc' := 77) rfl rfl rfl ?_
  refine wp_iushr (pc' := 78) rfl rfl ?_
  first | refine wp_iaddN (pc' := 79) rfl (by with_reducible rfl) (by with_reducible rfl) rfl ?_ | refine wp_iadd (pc' := 79) rfl rfl ?_
  refine wp_iret rfl rfl rfl ?_
  exact Qv kk (by decide +kernel) rfl
theorem m_ntz_4 {d : Nat} {K : Nat → Nat × Nat} {I : Nat → Nat → Int32} {L : Nat → Nat → Int64} {R : Nat → Nat → Option Nat} {n s : Nat} {Q : Lo → Lm → Prop} {x : Int32} (hx : (x ^^^ (-1)) &&& (x - nI 1) = nI (2 ^ 4 - 1)) (kk : Q (.inl (some (.int (nI 4)))) (K, I, L, R, n, s)) : Ok (d + 1) 310 [.int x] (K, I, L, R, n, s) Q := by
  refine Ok.enter (F := F_310) (ls := [.int x, lDead]) rfl rfl ?_
  refine wp_iload0 (pc' := 1) rfl rfl ?_
  refine wp_iconst (v := (-1)) (pc' := 2) rfl rfl rfl ?_
  refine wp_ixor (pc' := 3) rfl rfl ?_
  refine wp_iload0 (pc' := 4) rfl rfl ?_
  refine wp_iconst (v := nI 1) (pc' := 5) rfl rfl rfl ?_
  first | refine wp_isubN (pc' := 6) rfl (by with_reducible rfl) (by with_reducible rfl) (by omega) rfl ?_ | refine wp_isub (pc' := 6) rfl rfl ?_
  refine wp_iand (pc' := 7) rfl rfl ?_
  rw [hx]
  refine wp_istore0 (pc' := 8) rfl rfl ?_
  refine wp_iload0 (pc' := 9) rfl rfl ?_
  refine wp_ifgtT rfl (by decide +kernel) ?_
  refine wp_iconst (v := nI 1) (pc' := 18) rfl rfl rfl ?_
  refine wp_istore1 (pc' := 19) rfl (by first | rfl | assumption) rfl ?_
  refine wp_iload0 (pc' := 20) rfl rfl ?_
  refine wp_pool (v := .int (nI 65536)) (pc' := 23) rfl rfl rfl rfl rfl ?_
  refine wp_icmpleT rfl (by decide +kernel) ?_
  refine wp_iload0 (pc' := 35) rfl rfl ?_
  refine wp_sipush (v := nI 256) (pc' := 38) rfl rfl rfl ?_
  refine wp_icmpleT rfl (by decide +kernel) ?_
  refine wp_iload0 (pc' := 50) rfl rfl ?_
  refine wp_bipush (v := nI 16) (pc' := 52) rfl rfl rfl ?_
  refine wp_icmpleT rfl (by decide +kernel) ?_
  refine wp_iload0 (pc' := 63) rfl rfl ?_
  refine wp_iconst (v := nI 4) (pc' := 64) rfl rfl rfl ?_
  refine wp_icmpleF (pc' := 67) rfl (by decide +kernel) rfl ?_
  first | refine wp_iinc1 (w := nI 2) (pc' := 70) rfl rfl rfl (by with_reducible exact nI_add _ _) rfl ?_ | refine wp_iinc1 (w := nI 2) (pc' := 70) rfl rfl rfl rfl rfl ?_
  refine wp_iload0 (pc' := 71) rfl rfl ?_
  refine wp_iconst (v := nI 2) (pc' := 72) rfl rfl rfl ?_
  refine wp_iushr (pc' := 73) rfl rfl ?_
  refine wp_istore0 (pc' := 74) rfl rfl ?_
  refine wp_iload1 (pc' := 75) rfl rfl ?_
  refine wp_iload0 (pc' := 76) rfl rfl ?_
  refine wp_iconst (v := nI 1) (pc' := 77) rfl rfl rfl ?_
  refine wp_iushr (pc' := 78) rfl rfl ?_
  first | refine wp_iaddN (pc' := 79) rfl (by with_reducible rfl) (by with_reducible rfl) rfl ?_ | refine wp_iadd (pc' := 79) rfl rfl ?_
  refine wp_iret rfl rfl rfl ?_
  exact Qv kk (by decide +kernel) rfl
theorem m_ntz_5 {d : Nat} {K : Nat → Nat × Nat} {I : Nat → Nat → Int32} {L : Nat → Nat → Int64} {R : Nat → Nat → Option Nat} {n s : Nat} {Q : Lo → Lm → Prop} {x : Int32} (hx : (x ^^^ (-1)) &&& (x - nI 1) = nI (2 ^ 5 - 1)) (kk : Q (.inl (some (.int (nI 5)))) (K, I, L, R, n, s)) : Ok (d + 1) 310 [.int x] (K, I, L, R, n, s) Q := by
  refine Ok.enter (F := F_310) (ls := [.int x, lDead]) rfl rfl ?_
  refine wp_iload0 (pc' := 1) rfl rfl ?_
  refine wp_iconst (v := (-1)) (pc' := 2) rfl rfl rfl ?_
  refine wp_ixor (pc' := 3) rfl rfl ?_
  refine wp_iload0 (pc' := 4) rfl rfl ?_
  refine wp_iconst (v := nI 1) (pc' := 5) rfl rfl rfl ?_
  first | refine wp_isubN (pc' := 6) rfl (by with_reducible rfl) (by with_reducible rfl) (by omega) rfl ?_ | refine wp_isub (pc' := 6) rfl rfl ?_
  refine wp_iand (pc' := 7) rfl rfl ?_
  rw [hx]
  refine wp_istore0 (pc' := 8) rfl rfl ?_
  refine wp_iload0 (pc' := 9) rfl rfl ?_
  refine wp_ifgtT rfl (by decide +kernel) ?_
  refine wp_iconst (v := nI 1) (pc' := 18) rfl rfl rfl ?_
  refine wp_istore1 (pc' := 19) rfl (by first | rfl | assumption) rfl ?_
  refine wp_iload0 (pc' := 20) rfl rfl ?_
  refine wp_pool (v := .int (nI 65536)) (pc' := 23) rfl rfl rfl rfl rfl ?_
  refine wp_icmpleT rfl (by decide +kernel) ?_
  refine wp_iload0 (pc' := 35) rfl rfl ?_
  refine wp_sipush (v := nI 256) (pc' := 38) rfl rfl rfl ?_
  refine wp_icmpleT rfl (by decide +kernel) ?_
  refine wp_iload0 (pc' := 50) rfl rfl ?_
  refine wp_bipush (v := nI 16) (pc' := 52) rfl rfl rfl ?_
  refine wp_icmpleF (pc' := 55) rfl (by decide +kernel) rfl ?_
  first | refine wp_iinc1 (w := nI 4) (pc' := 58) rfl rfl rfl (by with_reducible exact nI_add _ _) rfl ?_ | refine wp_iinc1 (w := nI 4) (pc' := 58) rfl rfl rfl rfl rfl ?_
  refine wp_iload0 (pc' := 59) rfl rfl ?_
  refine wp_iconst (v := nI 4) (pc' := 60) rfl rfl rfl ?_
  refine wp_iushr (pc' := 61) rfl rfl ?_
  refine wp_istore0 (pc' := 62) rfl rfl ?_
  refine wp_iload0 (pc' := 63) rfl rfl ?_
  refine wp_iconst (v := nI 4) (pc' := 64) rfl rfl rfl ?_
  refine wp_icmpleT rfl (by decide +kernel) ?_
  refine wp_iload1 (pc' := 75) rfl rfl ?_
  refine wp_iload0 (pc' := 76) rfl rfl ?_
  refine wp_iconst (v := nI 1) (pc' := 77) rfl rfl rfl ?_
  refine wp_iushr (pc' := 78) rfl rfl ?_
  first | refine wp_iaddN (pc' := 79) rfl (by with_reducible rfl) (by with_reducible rfl) rfl ?_ | refine wp_iadd (pc' := 79) rfl rfl ?_
  refine wp_iret rfl rfl rfl ?_
  exact Qv kk (by decide +kernel) rfl
theorem m_ntz_6 {d : Nat} {K : Nat → Nat × Nat} {I : Nat → Nat → Int32} {L : Nat → Nat → Int64} {R : Nat → Nat → Option Nat} {n s : Nat} {Q : Lo → Lm → Prop} {x : Int32} (hx : (x ^^^ (-1)) &&& (x - nI 1) = nI (2 ^ 6 - 1)) (kk : Q (.inl (some (.int (nI 6)))) (K, I, L, R, n, s)) : Ok (d + 1) 310 [.int x] (K, I, L, R, n, s) Q := by
  refine Ok.enter (F := F_310) (ls := [.int x, lDead]) rfl rfl ?_
  refine wp_iload0 (pc' := 1) rfl rfl ?_
  refine wp_iconst (v := (-1)) (pc' := 2) rfl rfl rfl ?_
  refine wp_ixor (pc' := 3) rfl rfl ?_
  refine wp_iload0 (pc' := 4) rfl rfl ?_
  refine wp_iconst (v := nI 1) (pc' := 5) rfl rfl rfl ?_
  first | refine wp_isubN (pc' := 6) rfl (by with_reducible rfl) (by with_reducible rfl) (by omega) rfl ?_ | refine wp_isub (pc' := 6) rfl rfl ?_
  refine wp_iand (pc' := 7) rfl rfl ?_
  rw [hx]
  refine wp_istore0 (pc' := 8) rfl rfl ?_
  refine wp_iload0 (pc' := 9) rfl rfl ?_
  refine wp_ifgtT rfl (by decide +kernel) ?_
  refine wp_iconst (v := nI 1) (pc' := 18) rfl rfl rfl ?_
  refine wp_istore1 (pc' := 19) rfl (by first | rfl | assumption) rfl ?_
  refine wp_iload0 (pc' := 20) rfl rfl ?_
  refine wp_pool (v := .int (nI 65536)) (pc' := 23) rfl rfl rfl rfl rfl ?_
  refine wp_icmpleT rfl (by decide +kernel) ?_
  refine wp_iload0 (pc' := 35) rfl rfl ?_
  refine wp_sipush (v := nI 256) (pc' := 38) rfl rfl rfl ?_
  refine wp_icmpleT rfl (by decide +kernel) ?_
  refine wp_iload0 (pc' := 50) rfl rfl ?_
  refine wp_bipush (v := nI 16) (pc' := 52) rfl rfl rfl ?_
  refine wp_icmpleF (pc' := 55) rfl (by decide +kernel) rfl ?_
  first | refine wp_iinc1 (w := nI 4) (pc' := 58) rfl rfl rfl (by with_reducible exact nI_add _ _) rfl ?_ | refine wp_iinc1 (w := nI 4) (pc' := 58) rfl rfl rfl rfl rfl ?_
  refine wp_iload0 (pc' := 59) rfl rfl ?_
  refine wp_iconst (v := nI 4) (pc' := 60) rfl rfl rfl ?_
  refine wp_iushr (pc' := 61) rfl rfl ?_
  refine wp_istore0 (pc' := 62) rfl rfl ?_
  refine wp_iload0 (pc' := 63) rfl rfl ?_
  refine wp_iconst (v := nI 4) (pc' := 64) rfl rfl rfl ?_
  refine wp_icmpleT rfl (by decide +kernel) ?_
  refine wp_iload1 (pc' := 75) rfl rfl ?_
  refine wp_iload0 (pc' := 76) rfl rfl ?_
  refine wp_iconst (v := nI 1) (pc' := 77) rfl rfl rfl ?_
  refine wp_iushr (pc' := 78) rfl rfl ?_
  first | refine wp_iaddN (pc' := 79) rfl (by with_reducible rfl) (by with_reducible rfl) rfl ?_ | refine wp_iadd (pc' := 79) rfl rfl ?_
  refine wp_iret rfl rfl rfl ?_
  exact Qv kk (by decide +kernel) rfl
theorem m_ntz_7 {d : Nat} {K : Nat → Nat × Nat} {I : Nat → Nat → Int32} {L : Nat → Nat → Int64} {R : Nat → Nat → Option Nat} {n s : Nat} {Q : Lo → Lm → Prop} {x : Int32} (hx : (x ^^^ (-1)) &&& (x - nI 1) = nI (2 ^ 7 - 1)) (kk : Q (.inl (some (.int (nI 7)))) (K, I, L, R, n, s)) : Ok (d + 1) 310 [.int x] (K, I, L, R, n, s) Q := by
  refine Ok.enter (F := F_310) (ls := [.int x, lDead]) rfl rfl ?_
  refine wp_iload0 (pc' := 1) rfl rfl ?_
  refine wp_iconst (v := (-1)) (pc' := 2) rfl rfl rfl ?_
  refine wp_ixor (pc' := 3) rfl rfl ?_
  refine wp_iload0 (pc' := 4) rfl rfl ?_
  refine wp_iconst (v := nI 1) (pc' := 5) rfl rfl rfl ?_
  first | refine wp_isubN (pc' := 6) rfl (by with_reducible rfl) (by with_reducible rfl) (by omega) rfl ?_ | refine wp_isub (pc' := 6) rfl rfl ?_
  refine wp_iand (pc' := 7) rfl rfl ?_
  rw [hx]
  refine wp_istore0 (pc' := 8) rfl rfl ?_
  refine wp_iload0 (pc' := 9) rfl rfl ?_
  refine wp_ifgtT rfl (by decide +kernel) ?_
  refine wp_iconst (v := nI 1) (pc' := 18) rfl rfl rfl ?_
  refine wp_istore1 (pc' := 19) rfl (by first | rfl | assumption) rfl ?_
  refine wp_iload0 (pc' := 20) rfl rfl ?_
  refine wp_pool (v := .int (nI 65536)) (pc' := 23) rfl rfl rfl rfl rfl ?_
  refine wp_icmpleT rfl (by decide +kernel) ?_
  refine wp_iload0 (pc' := 35) rfl rfl ?_
  refine wp_sipush (v := nI 256) (pc' := 38) rfl rfl rfl ?_
  refine wp_icmpleT rfl (by decide +kernel) ?_
  refine wp_iload0 (pc' := 50) rfl rfl ?_
  refine wp_bipush (v := nI 16) (pc' := 52) rfl rfl rfl ?_
  refine wp_icmpleF (pc' := 55) rfl (by decide +kernel) rfl ?_
  first | refine wp_iinc1 (w := nI 4) (pc' := 58) rfl rfl rfl (by with_reducible exact nI_add _ _) rfl ?_ | refine wp_iinc1 (w := nI 4) (pc' := 58) rfl rfl rfl rfl rfl ?_
  refine wp_iload0 (pc' := 59) rfl rfl ?_
  refine wp_iconst (v := nI 4) (pc' := 60) rfl rfl rfl ?_
  refine wp_iushr (pc' := 61) rfl rfl ?_
  refine wp_istore0 (pc' := 62) rfl rfl ?_
  refine wp_iload0 (pc' := 63) rfl rfl ?_
  refine wp_iconst (v := nI 4) (pc' := 64) rfl rfl rfl ?_
  refine wp_icmpleF (pc' := 67) rfl (by decide +kernel) rfl ?_
  first | refine wp_iinc1 (w := nI 2) (pc' := 70) rfl rfl rfl (by with_reducible exact nI_add _ _) rfl ?_ | refine wp_iinc1 (w := nI 2) (pc' := 70) rfl rfl rfl rfl rfl ?_
  refine wp_iload0 (pc' := 71) rfl rfl ?_
  refine wp_iconst (v := nI 2) (pc' := 72) rfl rfl rfl ?_
  refine wp_iushr (pc' := 73) rfl rfl ?_
  refine wp_istore0 (pc' := 74) rfl rfl ?_
  refine wp_iload1 (pc' := 75) rfl rfl ?_
  refine wp_iload0 (pc' := 76) rfl rfl ?_
  refine wp_iconst (v := nI 1) (pc' := 77) rfl rfl rfl ?_
  refine wp_iushr (pc' := 78) rfl rfl ?_
  first | refine wp_iaddN (pc' := 79) rfl (by with_reducible rfl) (by with_reducible rfl) rfl ?_ | refine wp_iadd (pc' := 79) rfl rfl ?_
  refine wp_iret rfl rfl rfl ?_
  exact Qv kk (by decide +kernel) rfl
theorem m_ntz_8 {d : Nat} {K : Nat → Nat × Nat} {I : Nat → Nat → Int32} {L : Nat → Nat → Int64} {R : Nat → Nat → Option Nat} {n s : Nat} {Q : Lo → Lm → Prop} {x : Int32} (hx : (x ^^^ (-1)) &&& (x - nI 1) = nI (2 ^ 8 - 1)) (kk : Q (.inl (some (.int (nI 8)))) (K, I, L, R, n, s)) : Ok (d + 1) 310 [.int x] (K, I, L, R, n, s) Q := by
  refine Ok.enter (F := F_310) (ls := [.int x, lDead]) rfl rfl ?_
  refine wp_iload0 (pc' := 1) rfl rfl ?_
  refine wp_iconst (v := (-1)) (pc' := 2) rfl rfl rfl ?_
  refine wp_ixor (pc' := 3) rfl rfl ?_
  refine wp_iload0 (pc' := 4) rfl rfl ?_
  refine wp_iconst (v := nI 1) (pc' := 5) rfl rfl rfl ?_
  first | refine wp_isubN (pc' := 6) rfl (by with_reducible rfl) (by with_reducible rfl) (by omega) rfl ?_ | refine wp_isub (pc' := 6) rfl rfl ?_
  refine wp_iand (pc' := 7) rfl rfl ?_
  rw [hx]
  refine wp_istore0 (pc' := 8) rfl rfl ?_
  refine wp_iload0 (pc' := 9) rfl rfl ?_
  refine wp_ifgtT rfl (by decide +kernel) ?_
  refine wp_iconst (v := nI 1) (pc' := 18) rfl rfl rfl ?_
  refine wp_istore1 (pc' := 19) rfl (by first | rfl | assumption) rfl ?_
  refine wp_iload0 (pc' := 20) rfl rfl ?_
  refine wp_pool (v := .int (nI 65536)) (pc' := 23) rfl rfl rfl rfl rfl ?_
  refine wp_icmpleT rfl (by decide +kernel) ?_
  refine wp_iload0 (pc' := 35) rfl rfl ?_
  refine wp_sipush (v := nI 256) (pc' := 38) rfl rfl rfl ?_
  refine wp_icmpleT rfl (by decide +kernel) ?_
  refine wp_iload0 (pc' := 50) rfl rfl ?_
  refine wp_bipush (v := nI 16) (pc' := 52) rfl rfl rfl ?_
  refine wp_icmpleF (pc' := 55) rfl (by decide +kernel) rfl ?_
  first | refine wp_iinc1 (w := nI 4) (pc' := 58) rfl rfl rfl (by with_reducible exact nI_add _ _) rfl ?_ | refine wp_iinc1 (w := nI 4) (pc' := 58) rfl rfl rfl rfl rfl ?_
  refine wp_iload0 (pc' := 59) rfl rfl ?_
  refine wp_iconst (v := nI 4) (pc' := 60) rfl rfl rfl ?_
  refine wp_iushr (pc' := 61) rfl rfl ?_
  refine wp_istore0 (pc' := 62) rfl rfl ?_
  refine wp_iload0 (pc' := 63) rfl rfl ?_
  refine wp_iconst (v := nI 4) (pc' := 64) rfl rfl rfl ?_
  refine wp_icmpleF (pc' := 67) rfl (by decide +kernel) rfl ?_
  first | refine wp_iinc1 (w := nI 2) (pc' := 70) rfl rfl rfl (by with_reducible exact nI_add _ _) rfl ?_ | refine wp_iinc1 (w := nI 2) (pc' := 70) rfl rfl rfl rfl rfl ?_
  refine wp_iload0 (pc' := 71) rfl rfl ?_
  refine wp_iconst (v := nI 2) (pc' := 72) rfl rfl rfl ?_
  refine wp_iushr (pc' := 73) rfl rfl ?_
  refine wp_istore0 (pc' := 74) rfl rfl ?_
  refine wp_iload1 (pc' := 75) rfl rfl ?_
  refine wp_iload0 (pc' := 76) rfl rfl ?_
  refine wp_iconst (v := nI 1) (pc' := 77) rfl rfl rfl ?_
  refine wp_iushr (pc' := 78) rfl rfl ?_
  first | refine wp_iaddN (pc' := 79) rfl (by with_reducible rfl) (by with_reducible rfl) rfl ?_ | refine wp_iadd (pc' := 79) rfl rfl ?_
  refine wp_iret rfl rfl rfl ?_
  exact Qv kk (by decide +kernel) rfl
theorem m_ntz_9 {d : Nat} {K : Nat → Nat × Nat} {I : Nat → Nat → Int32} {L : Nat → Nat → Int64} {R : Nat → Nat → Option Nat} {n s : Nat} {Q : Lo → Lm → Prop} {x : Int32} (hx : (x ^^^ (-1)) &&& (x - nI 1) = nI (2 ^ 9 - 1)) (kk : Q (.inl (some (.int (nI 9)))) (K, I, L, R, n, s)) : Ok (d + 1) 310 [.int x] (K, I, L, R, n, s) Q := by
  refine Ok.enter (F := F_310) (ls := [.int x, lDead]) rfl rfl ?_
  refine wp_iload0 (pc' := 1) rfl rfl ?_
  refine wp_iconst (v := (-1)) (pc' := 2) rfl rfl rfl ?_
  refine wp_ixor (pc' := 3) rfl rfl ?_
  refine wp_iload0 (pc' := 4) rfl rfl ?_
  refine wp_iconst (v := nI 1) (pc' := 5) rfl rfl rfl ?_
  first | refine wp_isubN (pc' := 6) rfl (by with_reducible rfl) (by with_reducible rfl) (by omega) rfl ?_ | refine wp_isub (pc' := 6) rfl rfl ?_
  refine wp_iand (pc' := 7) rfl rfl ?_
  rw [hx]
  refine wp_istore0 (pc' := 8) rfl rfl ?_
  refine wp_iload0 (pc' := 9) rfl rfl ?_
  refine wp_ifgtT rfl (by decide +kernel) ?_
  refine wp_iconst (v := nI 1) (pc' := 18) rfl rfl rfl ?_
  refine wp_istore1 (pc' := 19) rfl (by first | rfl | assumption) rfl ?_
  refine wp_iload0 (pc' := 20) rfl rfl ?_
  refine wp_pool (v := .int (nI 65536)) (pc' := 23) rfl rfl rfl rfl rfl ?_
  refine wp_icmpleT rfl (by decide +kernel) ?_
  refine wp_iload0 (pc' := 35) rfl rfl ?_
  refine wp_sipush (v := nI 256) (pc' := 38) rfl rfl rfl ?_
  refine wp_icmpleF (pc' := 41) rfl (by decide +kernel) rfl ?_
  first | refine wp_iinc1 (w := nI 8) (pc' := 44) rfl rfl rfl (by with_reducible exact nI_add _ _) rfl ?_ | refine wp_iinc1 (w := nI 8) (pc' := 44) rfl rfl rfl rfl rfl ?_
  refine wp_iload0 (pc' := 45) rfl rfl ?_
  refine wp_bipush (v := nI 8) (pc' := 47) rfl rfl rfl ?_
  refine wp_iushr (pc' := 48) rfl rfl ?_
  refine wp_istore0 (pc' := 49) rfl rfl ?_
  refine wp_iload0 (pc' := 50) rfl rfl ?_
  refine wp_bipush (v := nI 16) (pc' := 52) rfl rfl rfl ?_
  refine wp_icmpleT rfl (by decide +kernel) ?_
  refine wp_iload0 (pc' := 63) rfl rfl ?_
  refine wp_iconst (v := nI 4) (pc' := 64) rfl rfl rfl ?_
  refine wp_icmpleT rfl (by decide +kernel) ?_
  refine wp_iload1 (pc' := 75) rfl rfl ?_
  refine wp_iload0 (pc' := 76) rfl rfl ?_
  refine wp_iconst (v := nI 1) (pc' := 77) rfl rfl rfl ?_
  refine wp_iushr (pc' := 78) rfl rfl ?_
  first | refine wp_iaddN (pc' := 79) rfl (by with_reducible rfl) (by with_reducible rfl) rfl ?_ | refine wp_iadd (pc' := 79) rfl rfl ?_
  refine wp_iret rfl rfl rfl ?_
  exact Qv kk (by decide +kernel) rfl
theorem m_ntz_10 {d : Nat} {K : Nat → Nat × Nat} {I : Nat → Nat → Int32} {L : Nat → Nat → Int64} {R : Nat → Nat → Option Nat} {n s : Nat} {Q : Lo → Lm → Prop} {x : Int32} (hx : (x ^^^ (-1)) &&& (x - nI 1) = nI (2 ^ 10 - 1)) (kk : Q (.inl (some (.int (nI 10)))) (K, I, L, R, n, s)) : Ok (d + 1) 310 [.int x] (K, I, L, R, n, s) Q := by
  refine Ok.enter (F := F_310) (ls := [.int x, lDead]) rfl rfl ?_
  refine wp_iload0 (pc' := 1) rfl rfl ?_
  refine wp_iconst (v := (-1)) (pc' := 2) rfl rfl rfl ?_
  refine wp_ixor (pc' := 3) rfl rfl ?_
  refine wp_iload0 (pc' := 4) rfl rfl ?_
  refine wp_iconst (v := nI 1) (pc' := 5) rfl rfl rfl ?_
  first | refine wp_isubN (pc' := 6) rfl (by with_reducible rfl) (by with_reducible rfl) (by omega) rfl ?_ | refine wp_isub (pc' := 6) rfl rfl ?_
  refine wp_iand (pc' := 7) rfl rfl ?_
  rw [hx]
  refine wp_istore0 (pc' := 8) rfl rfl ?_
  refine wp_iload0 (pc' := 9) rfl rfl ?_
  refine wp_ifgtT rfl (by decide +kernel) ?_
  refine wp_iconst (v := nI 1) (pc' := 18) rfl rfl rfl ?_
  refine wp_istore1 (pc' := 19) rfl (by first | rfl | assumption) rfl ?_
  refine wp_iload0 (pc' := 20) rfl rfl ?_
  refine wp_pool (v := .int (nI 65536)) (pc' := 23) rfl rfl rfl rfl rfl ?_
  refine wp_icmpleT rfl (by decide +kernel) ?_
  refine wp_iload0 (pc' := 35) rfl rfl ?_
  refine wp_sipush (v := nI 256) (pc' := 38) rfl rfl rfl ?_
  refine wp_icmpleF (pc' := 41) rfl (by decide +kernel) rfl ?_
  first | refine wp_iinc1 (w := nI 8) (pc' := 44) rfl rfl rfl (by with_reducible exact nI_add _ _) rfl ?_ | refine wp_iinc1 (w := nI 8) (pc' := 44) rfl rfl rfl rfl rfl ?_
  refine wp_iload0 (pc' := 45) rfl rfl ?_
  refine wp_bipush (v := nI 8) (pc' := 47) rfl rfl rfl ?_
  refine wp_iushr (pc' := 48) rfl rfl ?_
  refine wp_istore0 (pc' := 49) rfl rfl ?_
  refine wp_iload0 (pc' := 50) rfl rfl ?_
  refine wp_bipush (v := nI 16) (pc' := 52) rfl rfl rfl ?_
  refine wp_icmpleT rfl (by decide +kernel) ?_
  refine wp_iload0 (pc' := 63) rfl rfl ?_
  refine wp_iconst (v := nI 4) (pc' := 64) rfl rfl rfl ?_
  refine wp_icmpleT rfl (by decide +kernel) ?_
  refine wp_iload1 (pc' := 75) rfl rfl ?_
  refine wp_iload0 (pc' := 76) rfl rfl ?_
  refine wp_iconst (v := nI 1) (pc' := 77) rfl rfl rfl ?_
  refine wp_iushr (pc' := 78) rfl rfl ?_
  first | refine wp_iaddN (pc' := 79) rfl (by with_reducible rfl) (by with_reducible rfl) rfl ?_ | refine wp_iadd (pc' := 79) rfl rfl ?_
  refine wp_iret rfl rfl rfl ?_
  exact Qv kk (by decide +kernel) rfl
theorem m_ntz_11 {d : Nat} {K : Nat → Nat × Nat} {I : Nat → Nat → Int32} {L : Nat → Nat → Int64} {R : Nat → Nat → Option Nat} {n s : Nat} {Q : Lo → Lm → Prop} {x : Int32} (hx : (x ^^^ (-1)) &&& (x - nI 1) = nI (2 ^ 11 - 1)) (kk : Q (.inl (some (.int (nI 11)))) (K, I, L, R, n, s)) : Ok (d + 1) 310 [.int x] (K, I, L, R, n, s) Q := by
  refine Ok.enter (F := F_310) (ls := [.int x, lDead]) rfl rfl ?_
  refine wp_iload0 (pc' := 1) rfl rfl ?_
  refine wp_iconst (v := (-1)) (pc' := 2) rfl rfl rfl ?_
  refine wp_ixor (pc' := 3) rfl rfl ?_
  refine wp_iload0 (pc' := 4) rfl rfl ?_
  refine wp_iconst (v := nI 1) (pc' := 5) rfl rfl rfl ?_
  first | refine wp_isubN (pc' := 6) rfl (by with_reducible rfl) (by with_reducible rfl) (by omega) rfl ?_ | refine wp_isub (pc' := 6) rfl rfl ?_
  refine wp_iand (pc' := 7) rfl rfl ?_
  rw [hx]
  refine wp_istore0 (pc' := 8) rfl rfl ?_
  refine wp_iload0 (pc' := 9) rfl rfl ?_
  refine wp_ifgtT rfl (by decide +kernel) ?_
  refine wp_iconst (v := nI 1) (pc' := 18) rfl rfl rfl ?_
  refine wp_istore1 (pc' := 19) rfl (by first | rfl | assumption) rfl ?_
  refine wp_iload0 (pc' := 20) rfl rfl ?_
  refine wp_pool (v := .int (nI 65536)) (pc' := 23) rfl rfl rfl rfl rfl ?_
  refine wp_icmpleT rfl (by decide +kernel) ?_
  refine wp_iload0 (pc' := 35) rfl rfl ?_
  refine wp_sipush (v := nI 256) (pc' := 38) rfl rfl rfl ?_
  refine wp_icmpleF (pc' := 41) rfl (by decide +kernel) rfl ?_
  first | refine wp_iinc1 (w := nI 8) (pc' := 44) rfl rfl rfl (by with_reducible exact nI_add _ _) rfl ?_ | refine wp_iinc1 (w := nI 8) (pc' := 44) rfl rfl rfl rfl rfl ?_
  refine wp_iload0 (pc' := 45) rfl rfl ?_
  refine wp_bipush (v := nI 8) (pc' := 47) rfl rfl rfl ?_
  refine wp_iushr (pc' := 48) rfl rfl ?_
  refine wp_istore0 (pc' := 49) rfl rfl ?_
  refine wp_iload0 (pc' := 50) rfl rfl ?_
  refine wp_bipush (v := nI 16) (pc' := 52) rfl rfl rfl ?_
  refine wp_icmpleT rfl (by decide +kernel) ?_
  refine wp_iload0 (pc' := 63) rfl rfl ?_
  refine wp_iconst (v := nI 4) (pc' := 64) rfl rfl rfl ?_
  refine wp_icmpleF (pc' := 67) rfl (by decide +kernel) rfl ?_
  first | refine wp_iinc1 (w := nI 2) (pc' := 70) rfl rfl rfl (by with_reducible exact nI_add _ _) rfl ?_ | refine wp_iinc1 (w := nI 2) (pc' := 70) rfl rfl rfl rfl rfl ?_
  refine wp_iload0 (pc' := 71) rfl rfl ?_
  refine wp_iconst (v := nI 2) (pc' := 72) rfl rfl rfl ?_
  refine wp_iushr (pc' := 73) rfl rfl ?_
  refine wp_istore0 (pc' := 74) rfl rfl ?_
  refine wp_iload1 (pc' := 75) rfl rfl ?_
  refine wp_iload0 (pc' := 76) rfl rfl ?_
  refine wp_iconst (v := nI 1) (pc' := 77) rfl rfl rfl ?_
  refine wp_iushr (pc' := 78) rfl rfl ?_
  first | refine wp_iaddN (pc' := 79) rfl (by with_reducible rfl) (by with_reducible rfl) rfl ?_ | refine wp_iadd (pc' := 79) rfl rfl ?_
  refine wp_iret rfl rfl rfl ?_
  exact Qv kk (by decide +kernel) rfl
theorem m_ntz_12 {d : Nat} {K : Nat → Nat × Nat} {I : Nat → Nat → Int32} {L : Nat → Nat → Int64} {R : Nat → Nat → Option Nat} {n s : Nat} {Q : Lo → Lm → Prop} {x : Int32} (hx : (x ^^^ (-1)) &&& (x - nI 1) = nI (2 ^ 12 - 1)) (kk : Q (.inl (some (.int (nI 12)))) (K, I, L, R, n, s)) : Ok (d + 1) 310 [.int x] (K, I, L, R, n, s) Q := by
  refine Ok.enter (F := F_310) (ls := [.int x, lDead]) rfl rfl ?_
  refine wp_iload0 (pc' := 1) rfl rfl ?_
  refine wp_iconst (v := (-1)) (pc' := 2) rfl rfl rfl ?_
  refine wp_ixor (pc' := 3) rfl rfl ?_
  refine wp_iload0 (pc' := 4) rfl rfl ?_
  refine wp_iconst (v := nI 1) (pc' := 5) rfl rfl rfl ?_
  first | refine wp_isubN (pc' := 6) rfl (by with_reducible rfl) (by with_reducible rfl) (by omega) rfl ?_ | refine wp_isub (pc' := 6) rfl rfl ?_
  refine wp_iand (pc' := 7) rfl rfl ?_
  rw [hx]
  refine wp_istore0 (pc' := 8) rfl rfl ?_
  refine wp_iload0 (pc' := 9) rfl rfl ?_
  refine wp_ifgtT rfl (by decide +kernel) ?_
  refine wp_iconst (v := nI 1) (pc' := 18) rfl rfl rfl ?_
  refine wp_istore1 (pc' := 19) rfl (by first | rfl | assumption) rfl ?_
  refine wp_iload0 (pc' := 20) rfl rfl ?_
  refine wp_pool (v := .int (nI 65536)) (pc' := 23) rfl rfl rfl rfl rfl ?_
  refine wp_icmpleT rfl (by decide +kernel) ?_
  refine wp_iload0 (pc' := 35) rfl rfl ?_
  refine wp_sipush (v := nI 256) (pc' := 38) rfl rfl rfl ?_
  refine wp_icmpleF (pc' := 41) rfl (by decide +kernel) rfl ?_
  first | refine wp_iinc1 (w := nI 8) (pc' := 44) rfl rfl rfl (by with_reducible exact nI_add _ _) rfl ?_ | refine wp_iinc1 (w := nI 8) (pc' := 44) rfl rfl rfl rfl rfl ?_
  refine wp_iload0 (pc' := 45) rfl rfl ?_
  refine wp_bipush (v := nI 8) (pc' := 47) rfl rfl rfl ?_
  refine wp_iushr (pc' := 48) rfl rfl ?_
  refine wp_istore0 (pc' := 49) rfl rfl ?_
  refine wp_iload0 (pc' := 50) rfl rfl ?_
  refine wp_bipush (v := nI 16) (pc' := 52) rfl rfl rfl ?_
  refine wp_icmpleT rfl (by decide +kernel) ?_
  refine wp_iload0 (pc' := 63) rfl rfl ?_
  refine wp_iconst (v := nI 4) (pc' := 64) rfl rfl rfl ?_
  refine wp_icmpleF (pc' := 67) rfl (by decide +kernel) rfl ?_
  first | refine wp_iinc1 (w := nI 2) (pc' := 70) rfl rfl rfl (by with_reducible exact nI_add _ _) rfl ?_ | refine wp_iinc1 (w := nI 2) (pc' := 70) rfl rfl rfl rfl rfl ?_
  refine wp_iload0 (pc' := 71) rfl rfl ?_
  refine wp_iconst (v := nI 2) (pc' := 72) rfl rfl rfl ?_
  refine wp_iushr (pc' := 73) rfl rfl ?_
  refine wp_istore0 (pc' := 74) rfl rfl ?_
  refine wp_iload1 (pc' := 75) rfl rfl ?_
  refine wp_iload0 (pc' := 76) rfl rfl ?_
  refine wp_iconst (v := nI 1) (pc' := 77) rfl rfl rfl ?_
  refine wp_iushr (pc' := 78) rfl rfl ?_
  first | refine wp_iaddN (pc' := 79) rfl (by with_reducible rfl) (by with_reducible rfl) rfl ?_ | refine wp_iadd (pc' := 79) rfl rfl ?_
  refine wp_iret rfl rfl rfl ?_
  exact Qv kk (by decide +kernel) rfl
theorem m_ntz_13 {d : Nat} {K : Nat → Nat × Nat} {I : Nat → Nat → Int32} {L : Nat → Nat → Int64} {R : Nat → Nat → Option Nat} {n s : Nat} {Q : Lo → Lm → Prop} {x : Int32} (hx : (x ^^^ (-1)) &&& (x - nI 1) = nI (2 ^ 13 - 1)) (kk : Q (.inl (some (.int (nI 13)))) (K, I, L, R, n, s)) : Ok (d + 1) 310 [.int x] (K, I, L, R, n, s) Q := by
  refine Ok.enter (F := F_310) (ls := [.int x, lDead]) rfl rfl ?_
  refine wp_iload0 (pc' := 1) rfl rfl ?_
  refine wp_iconst (v := (-1)) (pc' := 2) rfl rfl rfl ?_
  refine wp_ixor (pc' := 3) rfl rfl ?_
  refine wp_iload0 (pc' := 4) rfl rfl ?_
  refine wp_iconst (v := nI 1) (pc' := 5) rfl rfl rfl ?_
  first | refine wp_isubN (pc' := 6) rfl (by with_reducible rfl) (by with_reducible rfl) (by omega) rfl ?_ | refine wp_isub (pc' := 6) rfl rfl ?_
  refine wp_iand (pc' := 7) rfl rfl ?_
  rw [hx]
  refine wp_istore0 (pc' := 8) rfl rfl ?_
  refine wp_iload0 (pc' := 9) rfl rfl ?_
  refine wp_ifgtT rfl (by decide +kernel) ?_
  refine wp_iconst (v := nI 1) (pc' := 18) rfl rfl rfl ?_
  refine wp_istore1 (pc' := 19) rfl (by first | rfl | assumption) rfl ?_
  refine wp_iload0 (pc' := 20) rfl rfl ?_
  refine wp_pool (v := .int (nI 65536)) (pc' := 23) rfl rfl rfl rfl rfl ?_
  refine wp_icmpleT rfl (by decide +kernel) ?_
  refine wp_iload0 (pc' := 35) rfl rfl ?_
  refine wp_sipush (v := nI 256) (pc' := 38) rfl rfl rfl ?_
  refine wp_icmpleF (pc' := 41) rfl (by decide +kernel) rfl ?_
  first | refine wp_iinc1 (w := nI 8) (pc' := 44) rfl rfl rfl (by with_reducible exact nI_add _ _) rfl ?_ | refine wp_iinc1 (w := nI 8) (pc' := 44) rfl rfl rfl rfl rfl ?_
  refine wp_iload0 (pc' := 45) rfl rfl ?_
  refine wp_bipush (v := nI 8) (pc' := 47) rfl rfl rfl ?_
  refine wp_iushr (pc' := 48) rfl rfl ?_
  refine wp_istore0 (pc' := 49) rfl rfl ?_
  refine wp_iload0 (pc' := 50) rfl rfl ?_
  refine wp_bipush (v := nI 16) (pc' := 52) rfl rfl rfl ?_
  refine wp_icmpleF (pc' := 55) rfl (by decide +kernel) rfl ?_
  first | refine wp_iinc1 (w := nI 4) (pc' := 58) rfl rfl rfl (by with_reducible exact nI_add _ _) rfl ?_ | refine wp_iinc1 (w := nI 4) (pc' := 58) rfl rfl rfl rfl rfl ?_
  refine wp_iload0 (pc' := 59) rfl rfl ?_
  refine wp_iconst (v := nI 4) (pc' := 60) rfl rfl rfl ?_
  refine wp_iushr (pc' := 61) rfl rfl ?_
  refine wp_istore0 (pc' := 62) rfl rfl ?_
  refine wp_iload0 (pc' := 63) rfl rfl ?_
  refine wp_iconst (v := nI 4) (pc' := 64) rfl rfl rfl ?_
  refine wp_icmpleT rfl (by decide +kernel) ?_
  refine wp_iload1 (pc' := 75) rfl rfl ?_
  refine wp_iload0 (pc' := 76) rfl rfl ?_
  refine wp_iconst (v := nI 1) (pc' := 77) rfl rfl rfl ?_
  refine wp_iushr (pc' := 78) rfl rfl ?_
  first | refine wp_iaddN (pc' := 79) rfl (by with_reducible rfl) (by with_reducible rfl) rfl ?_ | refine wp_iadd (pc' := 79) rfl rfl ?_
  refine wp_iret rfl rfl rfl ?_
  exact Qv kk (by decide +kernel) rfl
theorem m_ntz_14 {d : Nat} {K : Nat → Nat × Nat} {I : Nat → Nat → Int32} {L : Nat → Nat → Int64} {R : Nat → Nat → Option Nat} {n s : Nat} {Q : Lo → Lm → Prop} {x : Int32} (hx : (x ^^^ (-1)) &&& (x - nI 1) = nI (2 ^ 14 - 1)) (kk : Q (.inl (some (.int (nI 14)))) (K, I, L, R, n, s)) : Ok (d + 1) 310 [.int x] (K, I, L, R, n, s) Q := by
  refine Ok.enter (F := F_310) (ls := [.int x, lDead]) rfl rfl ?_
  refine wp_iload0 (pc' := 1) rfl rfl ?_
  refine wp_iconst (v := (-1)) (pc' := 2) rfl rfl rfl ?_
  refine wp_ixor (pc' := 3) rfl rfl ?_
  refine wp_iload0 (pc' := 4) rfl rfl ?_
  refine wp_iconst (v := nI 1) (pc' := 5) rfl rfl rfl ?_
  first | refine wp_isubN (pc' := 6) rfl (by with_reducible rfl) (by with_reducible rfl) (by omega) rfl ?_ | refine wp_isub (pc' := 6) rfl rfl ?_
  refine wp_iand (pc' := 7) rfl rfl ?_
  rw [hx]
  refine wp_istore0 (pc' := 8) rfl rfl ?_
  refine wp_iload0 (pc' := 9) rfl rfl ?_
  refine wp_ifgtT rfl (by decide +kernel) ?_
  refine wp_iconst (v := nI 1) (pc' := 18) rfl rfl rfl ?_
  refine wp_istore1 (pc' := 19) rfl (by first | rfl | assumption) rfl ?_
  refine wp_iload0 (pc' := 20) rfl rfl ?_
  refine wp_pool (v := .int (nI 65536)) (pc' := 23) rfl rfl rfl rfl rfl ?_
  refine wp_icmpleT rfl (by decide +kernel) ?_
  refine wp_iload0 (pc' := 35) rfl rfl ?_
  refine wp_sipush (v := nI 256) (pc' := 38) rfl rfl rfl ?_
  refine wp_icmpleF (pc' := 41) rfl (by decide +kernel) rfl ?_
  first | refine wp_iinc1 (w := nI 8) (pc' := 44) rfl rfl rfl (by with_reducible exact nI_add _ _) rfl ?_ | refine wp_iinc1 (w := nI 8) (pc' := 44) rfl rfl rfl rfl rfl ?_
  refine wp_iload0 (pc' := 45) rfl rfl ?_
  refine wp_bipush (v := nI 8) (pc' := 47) rfl rfl rfl ?_
  refine wp_iushr (pc' := 48) rfl rfl ?_
  refine wp_istore0 (pc' := 49) rfl rfl ?_
  refine wp_iload0 (pc' := 50) rfl rfl ?_
  refine wp_bipush (v := nI 16) (pc' := 52) rfl rfl rfl ?_
  refine wp_icmpleF (pc' := 55) rfl (by decide +kernel) rfl ?_
  first | refine wp_iinc1 (w := nI 4) (pc' := 58) rfl rfl rfl (by with_reducible exact nI_add _ _) rfl ?_ | refine wp_iinc1 (w := nI 4) (pc' := 58) rfl rfl rfl rfl rfl ?_
  refine wp_iload0 (pc' := 59) rfl rfl ?_
  refine wp_iconst (v := nI 4) (pc' := 60) rfl rfl rfl ?_
  refine wp_iushr (pc' := 61) rfl rfl ?_
  refine wp_istore0 (pc' := 62) rfl rfl ?_
  refine wp_iload0 (pc' := 63) rfl rfl ?_
  refine wp_iconst (v := nI 4) (pc' := 64) rfl rfl rfl ?_
  refine wp_icmpleT rfl (by decide +kernel) ?_
  refine wp_iload1 (pc' := 75) rfl rfl ?_
  refine wp_iload0 (pc' := 76) rfl rfl ?_
  refine wp_iconst (v := nI 1) (pc' := 77) rfl rfl rfl ?_
  refine wp_iushr (pc' := 78) rfl rfl ?_
  first | refine wp_iaddN (pc' := 79) rfl (by with_reducible rfl) (by with_reducible rfl) rfl ?_ | refine wp_iadd (pc' := 79) rfl rfl ?_
  refine wp_iret rfl rfl rfl ?_
  exact Qv kk (by decide +kernel) rfl
theorem m_ntz_15 {d : Nat} {K : Nat → Nat × Nat} {I : Nat → Nat → Int32} {L : Nat → Nat → Int64} {R : Nat → Nat → Option Nat} {n s : Nat} {Q : Lo → Lm → Prop} {x : Int32} (hx : (x ^^^ (-1)) &&& (x - nI 1) = nI (2 ^ 15 - 1)) (kk : Q (.inl (some (.int (nI 15)))) (K, I, L, R, n, s)) : Ok (d + 1) 310 [.int x] (K, I, L, R, n, s) Q := by
  refine Ok.enter (F := F_310) (ls := [.int x, lDead]) rfl rfl ?_
  refine wp_iload0 (pc' := 1) rfl rfl ?_
  refine wp_iconst (v := (-1)) (pc' := 2) rfl rfl rfl ?_
  refine wp_ixor (pc' := 3) rfl rfl ?_
  refine wp_iload0 (pc' := 4) rfl rfl ?_
  refine wp_iconst (v := nI 1) (pc' := 5) rfl rfl rfl ?_
  first | refine wp_isubN (pc' := 6) rfl (by with_reducible rfl) (by with_reducible rfl) (by omega) rfl ?_ | refine wp_isub (pc' := 6) rfl rfl ?_
  refine wp_iand (pc' := 7) rfl rfl ?_
  rw [hx]
  refine wp_istore0 (pc' := 8) rfl rfl ?_
  refine wp_iload0 (pc' := 9) rfl rfl ?_
  refine wp_ifgtT rfl (by decide +kernel) ?_
  refine wp_iconst (v := nI 1) (pc' := 18) rfl rfl rfl ?_
  refine wp_istore1 (pc' := 19) rfl (by first | rfl | assumption) rfl ?_
  refine wp_iload0 (pc' := 20) rfl rfl ?_
  refine wp_pool (v := .int (nI 65536)) (pc' := 23) rfl rfl rfl rfl rfl ?_
  refine wp_icmpleT rfl (by decide +kernel) ?_
  refine wp_iload0 (pc' := 35) rfl rfl ?_
  refine wp_sipush (v := nI 256) (pc' := 38) rfl rfl rfl ?_
  refine wp_icmpleF (pc' := 41) rfl (by decide +kernel) rfl ?_
  first | refine wp_iinc1 (w := nI 8) (pc' := 44) rfl rfl rfl (by with_reducible exact nI_add _ _) rfl ?_ | refine wp_iinc1 (w := nI 8) (pc' := 44) rfl rfl rfl rfl rfl ?_
  refine wp_iload0 (pc' := 45) rfl rfl ?_
  refine wp_bipush (v := nI 8) (pc' := 47) rfl rfl rfl ?_
  refine wp_iushr (pc' := 48) rfl rfl ?_
  refine wp_istore0 (pc' := 49) rfl rfl ?_
  refine wp_iload0 (pc' := 50) rfl rfl ?_
  refine wp_bipush (v := nI 16) (pc' := 52) rfl rfl rfl ?_
  refine wp_icmpleF (pc' := 55) rfl (by decide +kernel) rfl ?_
  first | refine wp_iinc1 (w := nI 4) (pc' := 58) rfl rfl rfl (by with_reducible exact nI_add _ _) rfl ?_ | refine wp_iinc1 (w := nI 4) (pc' := 58) rfl rfl rfl rfl rfl ?_
  refine wp_iload0 (pc' := 59) rfl rfl ?_
  refine wp_iconst (v := nI 4) (pc' := 60) rfl rfl rfl ?_
  refine wp_iushr (pc' := 61) rfl rfl ?_
  refine wp_istore0 (pc' := 62) rfl rfl ?_
  refine wp_iload0 (pc' := 63) rfl rfl ?_
  refine wp_iconst (v := nI 4) (pc' := 64) rfl rfl rfl ?_
  refine wp_icmpleF (pc' := 67) rfl (by decide +kernel) rfl ?_
  first | refine wp_iinc1 (w := nI 2) (pc' := 70) rfl rfl rfl (by with_reducible exact nI_add _ _) rfl ?_ | refine wp_iinc1 (w := nI 2) (pc' := 70) rfl rfl rfl rfl rfl ?_
  refine wp_iload0 (pc' := 71) rfl rfl ?_
  refine wp_iconst (v := nI 2) (pc' := 72) rfl rfl rfl ?_
  refine wp_iushr (pc' := 73) rfl rfl ?_
  refine wp_istore0 (pc' := 74) rfl rfl ?_
  refine wp_iload1 (pc' := 75) rfl rfl ?_
  refine wp_iload0 (pc' := 76) rfl rfl ?_
  refine wp_iconst (v := nI 1) (pc' := 77) rfl rfl rfl ?_
  refine wp_iushr (pc' := 78) rfl rfl ?_
  first | refine wp_iaddN (pc' := 79) rfl (by with_reducible rfl) (by with_reducible rfl) rfl ?_ | refine wp_iadd (pc' := 79) rfl rfl ?_
  refine wp_iret rfl rfl rfl ?_
  exact Qv kk (by decide +kernel) rfl
theorem m_ntz_16 {d : Nat} {K : Nat → Nat × Nat} {I : Nat → Nat → Int32} {L : Nat → Nat → Int64} {R : Nat → Nat → Option Nat} {n s : Nat} {Q : Lo → Lm → Prop} {x : Int32} (hx : (x ^^^ (-1)) &&& (x - nI 1) = nI (2 ^ 16 - 1)) (kk : Q (.inl (some (.int (nI 16)))) (K, I, L, R, n, s)) : Ok (d + 1) 310 [.int x] (K, I, L, R, n, s) Q := by
  refine Ok.enter (F := F_310) (ls := [.int x, lDead]) rfl rfl ?_
  refine wp_iload0 (pc' := 1) rfl rfl ?_
  refine wp_iconst (v := (-1)) (pc' := 2) rfl rfl rfl ?_
  refine wp_ixor (pc' := 3) rfl rfl ?_
  refine wp_iload0 (pc' := 4) rfl rfl ?_
  refine wp_iconst (v := nI 1) (pc' := 5) rfl rfl rfl ?_
  first | refine wp_isubN (pc' := 6) rfl (by with_reducible rfl) (by with_reducible rfl) (by omega) rfl ?_ | refine wp_isub (pc' := 6) rfl rfl ?_
  refine wp_iand (pc' := 7) rfl rfl ?_
  rw [hx]
  refine wp_istore0 (pc' := 8) rfl rfl ?_
  refine wp_iload0 (pc' := 9) rfl rfl ?_
  refine wp_ifgtT rfl (by decide +kernel) ?_
  refine wp_iconst (v := nI 1) (pc' := 18) rfl rfl rfl ?_
  refine wp_istore1 (pc' := 19) rfl (by first | rfl | assumption) rfl ?_
  refine wp_iload0 (pc' := 20) rfl rfl ?_
  refine wp_pool (v := .int (nI 65536)) (pc' := 23) rfl rfl rfl rfl rfl ?_
  refine wp_icmpleT rfl (by decide +kernel) ?_
  refine wp_iload0 (pc' := 35) rfl rfl ?_
  refine wp_sipush (v := nI 256) (pc' := 38) rfl rfl rfl ?_
  refine wp_icmpleF (pc' := 41) rfl (by decide +kernel) rfl ?_
  first | refine wp_iinc1 (w := nI 8) (pc' := 44) rfl rfl rfl (by with_reducible exact nI_add _ _) rfl ?_ | refine wp_iinc1 (w := nI 8) (pc' := 44) rfl rfl rfl rfl rfl ?_
  refine wp_iload0 (pc' := 45) rfl rfl ?_
  refine wp_bipush (v := nI 8) (pc' := 47) rfl rfl rfl ?_
  refine wp_iushr (pc' := 48) rfl rfl ?_
  refine wp_istore0 (pc' := 49) rfl rfl ?_
  refine wp_iload0 (pc' := 50) rfl rfl ?_
  refine wp_bipush (v := nI 16) (pc' := 52) rfl rfl rfl ?_
  refine wp_icmpleF (pc' := 55) rfl (by decide +kernel) rfl ?_
  first | refine wp_iinc1 (w := nI 4) (pc' := 58) rfl rfl rfl (by with_reducible exact nI_add _ _) rfl ?_ | refine wp_iinc1 (w := nI 4) (pc' := 58) rfl rfl rfl rfl rfl ?_
  refine wp_iload0 (pc' := 59) rfl rfl ?_
  refine wp_iconst (v := nI 4) (pc' := 60) rfl rfl rfl ?_
  refine wp_iushr (pc' := 61) rfl rfl ?_
  refine wp_istore0 (pc' := 62) rfl rfl ?_
  refine wp_iload0 (pc' := 63) rfl rfl ?_
  refine wp_iconst (v := nI 4) (pc' := 64) rfl rfl rfl ?_
  refine wp_icmpleF (pc' := 67) rfl (by decide +kernel) rfl ?_
  first | refine wp_iinc1 (w := nI 2) (pc' := 70) rfl rfl rfl (by with_reducible exact nI_add _ _) rfl ?_ | refine wp_iinc1 (w := nI 2) (pc' := 70) rfl rfl rfl rfl rfl ?_
  refine wp_iload0 (pc' := 71) rfl rfl ?_
  refine wp_iconst (v := nI 2) (pc' := 72) rfl rfl rfl ?_
  refine wp_iushr (pc' := 73) rfl rfl ?_
  refine wp_istore0 (pc' := 74) rfl rfl ?_
  refine wp_iload1 (pc' := 75) rfl rfl ?_
  refine wp_iload0 (pc' := 76) rfl rfl ?_
  refine wp_iconst (v := nI 1) (pc' := 77) rfl rfl rfl ?_
  refine wp_iushr (pc' := 78) rfl rfl ?_
  first | refine wp_iaddN (pc' := 79) rfl (by with_reducible rfl) (by with_reducible rfl) rfl ?_ | refine wp_iadd (pc' := 79) rfl rfl ?_
  refine wp_iret rfl rfl rfl ?_
  exact Qv kk (by decide +kernel) rfl
theorem m_ntz_17 {d : Nat} {K : Nat → Nat × Nat} {I : Nat → Nat → Int32} {L : Nat → Nat → Int64} {R : Nat → Nat → Option Nat} {n s : Nat} {Q : Lo → Lm → Prop} {x : Int32} (hx : (x ^^^ (-1)) &&& (x - nI 1) = nI (2 ^ 17 - 1)) (kk : Q (.inl (some (.int (nI 17)))) (K, I, L, R, n, s)) : Ok (d + 1) 310 [.int x] (K, I, L, R, n, s) Q := by
  refine Ok.enter (F := F_310) (ls := [.int x, lDead]) rfl rfl ?_
  refine wp_iload0 (pc' := 1) rfl rfl ?_
  refine wp_iconst (v := (-1)) (pc' := 2) rfl rfl rfl ?_
  refine wp_ixor (pc' := 3) rfl rfl ?_
  refine wp_iload0 (pc' := 4) rfl rfl ?_
  refine wp_iconst (v := nI 1) (pc' := 5) rfl rfl rfl ?_
  first | refine wp_isubN (pc' := 6) rfl (by with_reducible rfl) (by with_reducible rfl) (by omega) rfl ?_ | refine wp_isub (pc' := 6) rfl rfl ?_
  refine wp_iand (pc' := 7) rfl rfl ?_
  rw [hx]
  refine wp_istore0 (pc' := 8) rfl rfl ?_
  refine wp_iload0 (pc' := 9) rfl rfl ?_
  refine wp_ifgtT rfl (by decide +kernel) ?_
  refine wp_iconst (v := nI 1) (pc' := 18) rfl rfl rfl ?_
  refine wp_istore1 (pc' := 19) rfl (by first | rfl | assumption) rfl ?_
  refine wp_iload0 (pc' := 20) rfl rfl ?_
  refine wp_pool (v := .int (nI 65536)) (pc' := 23) rfl rfl rfl rfl rfl ?_
  refine wp_icmpleF (pc' := 26) rfl (by decide +kernel) rfl ?_
  first | refine wp_iinc1 (w := nI 16) (pc' := 29) rfl rfl rfl (by with_reducible exact nI_add _ _) rfl ?_ | refine wp_iinc1 (w := nI 16) (pc' := 29) rfl rfl rfl rfl rfl ?_
  refine wp_iload0 (pc' := 30) rfl rfl ?_
  refine wp_bipush (v := nI 16) (pc' := 32) rfl rfl rfl ?_
  refine wp_iushr (pc' := 33) rfl rfl ?_
  refine wp_istore0 (pc' := 34) rfl rfl ?_
  refine wp_iload0 (pc' := 35) rfl rfl ?_
  refine wp_sipush (v := nI 256) (pc' := 38) rfl rfl rfl ?_
  refine wp_icmpleT rfl (by decide +kernel) ?_
  refine wp_iload0 (pc' := 50) rfl rfl ?_
  refine wp_bipush (v := nI 16) (pc' := 52) rfl rfl rfl ?_
  refine wp_icmpleT rfl (by decide +kernel) ?_
  refine wp_iload0 (pc' := 63) rfl rfl ?_
  refine wp_iconst (v := nI 4) (pc' := 64) rfl rfl rfl ?_
  refine wp_icmpleT rfl (by decide +kernel) ?_
  refine wp_iload1 (pc' := 75) rfl rfl ?_
  refine wp_iload0 (pc' := 76) rfl rfl ?_
  refine wp_iconst (v := nI 1) (pc' := 77) rfl rfl rfl ?_
  refine wp_iushr (pc' := 78) rfl rfl ?_
  first | refine wp_iaddN (pc' := 79) rfl (by with_reducible rfl) (by with_reducible rfl) rfl ?_ | refine wp_iadd (pc' := 79) rfl rfl ?_
  refine wp_iret rfl rfl rfl ?_
  exact Qv kk (by decide +kernel) rfl
theorem m_ntz_18 {d : Nat} {K : Nat → Nat × Nat} {I : Nat → Nat → Int32} {L : Nat → Nat → Int64} {R : Nat → Nat → Option Nat} {n s : Nat} {Q : Lo → Lm → Prop} {x : Int32} (hx : (x ^^^ (-1)) &&& (x - nI 1) = nI (2 ^ 18 - 1)) (kk : Q (.inl (some (.int (nI 18)))) (K, I, L, R, n, s)) : Ok (d + 1) 310 [.int x] (K, I, L, R, n, s) Q := by
  refine Ok.enter (F := F_310) (ls := [.int x, lDead]) rfl rfl ?_
  refine wp_iload0 (pc' := 1) rfl rfl ?_
  refine wp_iconst (v := (-1)) (pc' := 2) rfl rfl rfl ?_
  refine wp_ixor (pc' := 3) rfl rfl ?_
  refine wp_iload0 (pc' := 4) rfl rfl ?_
  refine wp_iconst (v := nI 1) (pc' := 5) rfl rfl rfl ?_
  first | refine wp_isubN (pc' := 6) rfl (by with_reducible rfl) (by with_reducible rfl) (by omega) rfl ?_ | refine wp_isub (pc' := 6) rfl rfl ?_
  refine wp_iand (pc' := 7) rfl rfl ?_
  rw [hx]
  refine wp_istore0 (pc' := 8) rfl rfl ?_
  refine wp_iload0 (pc' := 9) rfl rfl ?_
  refine wp_ifgtT rfl (by decide +kernel) ?_
  refine wp_iconst (v := nI 1) (pc' := 18) rfl rfl rfl ?_
  refine wp_istore1 (pc' := 19) rfl (by first | rfl | assumption) rfl ?_
  refine wp_iload0 (pc' := 20) rfl rfl ?_
  refine wp_pool (v := .int (nI 65536)) (pc' := 23) rfl rfl rfl rfl rfl ?_
  refine wp_icmpleF (pc' := 26) rfl (by decide +kernel) rfl ?_
  first | refine wp_iinc1 (w := nI 16) (pc' := 29) rfl rfl rfl (by with_reducible exact nI_add _ _) rfl ?_ | refine wp_iinc1 (w := nI 16) (pc' := 29) rfl rfl rfl rfl rfl ?_
  refine wp_iload0 (pc' := 30) rfl rfl ?_
  refine wp_bipush (v := nI 16) (pc' := 32) rfl rfl rfl ?_
  refine wp_iushr (pc' := 33) rfl rfl ?_
  refine wp_istore0 (pc' := 34) rfl rfl ?_
  refine wp_iload0 (pc' := 35) rfl rfl ?_
  refine wp_sipush (v := nI 256) (pc' := 38) rfl rfl rfl ?_
  refine wp_icmpleT rfl (by decide +kernel) ?_
  refine wp_iload0 (pc' := 50) rfl rfl ?_
  refine wp_bipush (v := nI 16) (pc' := 52) rfl rfl rfl ?_
  refine wp_icmpleT rfl (by decide +kernel) ?_
  refine wp_iload0 (pc' := 63) rfl rfl ?_
  refine wp_iconst (v := nI 4) (pc' := 64) rfl rfl rfl ?_
  refine wp_icmpleT rfl (by decide +kernel) ?_
  refine wp_iload1 (pc' := 75) rfl rfl ?_
  refine wp_iload0 (pc' := 76) rfl rfl ?_
  refine wp_iconst (v := nI 1) (pc' := 77) rfl rfl rfl ?_
  refine wp_iushr (pc' := 78) rfl rfl ?_
  first | refine wp_iaddN (pc' := 79) rfl (by with_reducible rfl) (by with_reducible rfl) rfl ?_ | refine wp_iadd (pc' := 79) rfl rfl ?_
  refine wp_iret rfl rfl rfl ?_
  exact Qv kk (by decide +kernel) rfl
theorem m_ntz_19 {d : Nat} {K : Nat → Nat × Nat} {I : Nat → Nat → Int32} {L : Nat → Nat → Int64} {R : Nat → Nat → Option Nat} {n s : Nat} {Q : Lo → Lm → Prop} {x : Int32} (hx : (x ^^^ (-1)) &&& (x - nI 1) = nI (2 ^ 19 - 1)) (kk : Q (.inl (some (.int (nI 19)))) (K, I, L, R, n, s)) : Ok (d + 1) 310 [.int x] (K, I, L, R, n, s) Q := by
  refine Ok.enter (F := F_310) (ls := [.int x, lDead]) rfl rfl ?_
  refine wp_iload0 (pc' := 1) rfl rfl ?_
  refine wp_iconst (v := (-1)) (pc' := 2) rfl rfl rfl ?_
  refine wp_ixor (pc' := 3) rfl rfl ?_
  refine wp_iload0 (pc' := 4) rfl rfl ?_
  refine wp_iconst (v := nI 1) (pc' := 5) rfl rfl rfl ?_
  first | refine wp_isubN (pc' := 6) rfl (by with_reducible rfl) (by with_reducible rfl) (by omega) rfl ?_ | refine wp_isub (pc' := 6) rfl rfl ?_
  refine wp_iand (pc' := 7) rfl rfl ?_
  rw [hx]
  refine wp_istore0 (pc' := 8) rfl rfl ?_
  refine wp_iload0 (pc' := 9) rfl rfl ?_
  refine wp_ifgtT rfl (by decide +kernel) ?_
  refine wp_iconst (v := nI 1) (pc' := 18) rfl rfl rfl ?_
  refine wp_istore1 (pc' := 19) rfl (by first | rfl | assumption) rfl ?_
  refine wp_iload0 (pc' := 20) rfl rfl ?_
  refine wp_pool (v := .int (nI 65536)) (pc' := 23) rfl rfl rfl rfl rfl ?_
  refine wp_icmpleF (pc' := 26) rfl (by decide +kernel) rfl ?_
  first | refine wp_iinc1 (w := nI 16) (pc' := 29) rfl rfl rfl (by with_reducible exact nI_add _ _) rfl ?_ | refine wp_iinc1 (w := nI 16) (pc' := 29) rfl rfl rfl rfl rfl ?_
  refine wp_iload0 (pc' := 30) rfl rfl ?_
  refine wp_bipush (v := nI 16) (pc' := 32) rfl rfl rfl ?_
  refine wp_iushr (pc' := 33) rfl rfl ?_
  refine wp_istore0 (pc' := 34) rfl rfl ?_
  refine wp_iload0 (pc' := 35) rfl rfl ?_
  refine wp_sipush (v := nI 256) (pc' := 38) rfl rfl rfl ?_
  refine wp_icmpleT rfl (by decide +kernel) ?_
  refine wp_iload0 (pc' := 50) rfl rfl ?_
  refine wp_bipush (v := nI 16) (pc' := 52) rfl rfl rfl ?_
  refine wp_icmpleT rfl (by decide +kernel) ?_
  refine wp_iload0 (pc' := 63) rfl rfl ?_
  refine wp_iconst (v := nI 4) (pc' := 64) rfl rfl rfl ?_
  refine wp_icmpleF (pc' := 67) rfl (by decide +kernel) rfl ?_
  first | refine wp_iinc1 (w := nI 2) (pc' := 70) rfl rfl rfl (by with_reducible exact nI_add _ _) rfl ?_ | refine wp_iinc1 (w := nI 2) (pc' := 70) rfl rfl rfl rfl rfl ?_
  refine wp_iload0 (pc' := 71) rfl rfl ?_
  refine wp_iconst (v := nI 2) (pc' := 72) rfl rfl rfl ?_
  refine wp_iushr (pc' := 73) rfl rfl ?_
  refine wp_istore0 (pc' := 74) rfl rfl ?_
  refine wp_iload1 (pc' := 75) rfl rfl ?_
  refine wp_iload0 (pc' := 76) rfl rfl ?_
  refine wp_iconst (v := nI 1) (pc' := 77) rfl rfl rfl ?_
  refine wp_iushr (pc' := 78) rfl rfl ?_
  first | refine wp_iaddN (pc' := 79) rfl (by with_reducible rfl) (by with_reducible rfl) rfl ?_ | refine wp_iadd (pc' := 79) rfl rfl ?_
  refine wp_iret rfl rfl rfl ?_
  exact Qv kk (by decide +kernel) rfl
theorem m_ntz_20 {d : Nat} {K : Nat → Nat × Nat} {I : Nat → Nat → Int32} {L : Nat → Nat → Int64} {R : Nat → Nat → Option Nat} {n s : Nat} {Q : Lo → Lm → Prop} {x : Int32} (hx : (x ^^^ (-1)) &&& (x - nI 1) = nI (2 ^ 20 - 1)) (kk : Q (.inl (some (.int (nI 20)))) (K, I, L, R, n, s)) : Ok (d + 1) 310 [.int x] (K, I, L, R, n, s) Q := by
  refine Ok.enter (F := F_310) (ls := [.int x, lDead]) rfl rfl ?_
  refine wp_iload0 (pc' := 1) rfl rfl ?_
  refine wp_iconst (v := (-1)) (pc' := 2) rfl rfl rfl ?_
  refine wp_ixor (pc' := 3) rfl rfl ?_
  refine wp_iload0 (pc' := 4) rfl rfl ?_
  refine wp_iconst (v := nI 1) (pc' := 5) rfl rfl rfl ?_
  first | refine wp_isubN (pc' := 6) rfl (by with_reducible rfl) (by with_reducible rfl) (by omega) rfl ?_ | refine wp_isub (pc' := 6) rfl rfl ?_
  refine wp_iand (pc' := 7) rfl rfl ?_
  rw [hx]
  refine wp_istore0 (pc' := 8) rfl rfl ?_
  refine wp_iload0 (pc' := 9) rfl rfl ?_
  refine wp_ifgtT rfl (by decide +kernel) ?_
  refine wp_iconst (v := nI 1) (pc' := 18) rfl rfl rfl ?_
  refine wp_istore1 (pc' := 19) rfl (by first | rfl | assumption) rfl ?_
  refine wp_iload0 (pc' := 20) rfl rfl ?_
  refine wp_pool (v := .int (nI 65536)) (pc' := 23) rfl rfl rfl rfl rfl ?_
  refine wp_icmpleF (pc' := 26) rfl (by decide +kernel) rfl ?_
  first | refine wp_iinc1 (w := nI 16) (pc' := 29) rfl rfl rfl (by with_reducible exact nI_add _ _) rfl ?_ | refine wp_iinc1 (w := nI 16) (pc' := 29) rfl rfl rfl rfl rfl ?_
  refine wp_iload0 (pc' := 30) rfl rfl ?_
  refine wp_bipush (v := nI 16) (pc' := 32) rfl rfl rfl ?_
  refine wp_iushr (pc' := 33) rfl rfl ?_
  refine wp_istore0 (pc' := 34) rfl rfl ?_
  refine wp_iload0 (pc' := 35) rfl rfl ?_
  refine wp_sipush (v := nI 256) (pc' := 38) rfl rfl rfl ?_
  refine wp_icmpleT rfl (by decide +kernel) ?_
  refine wp_iload0 (pc' := 50) rfl rfl ?_
  refine wp_bipush (v := nI 16) (pc' := 52) rfl rfl rfl ?_
  refine wp_icmpleT rfl (by decide +kernel) ?_
  refine wp_iload0 (pc' := 63) rfl rfl ?_
  refine wp_iconst (v := nI 4) (pc' := 64) rfl rfl rfl ?_
  refine wp_icmpleF (pc' := 67) rfl (by decide +kernel) rfl ?_
  first | refine wp_iinc1 (w := nI 2) (pc' := 70) rfl rfl rfl (by with_reducible exact nI_add _ _) rfl ?_ | refine wp_iinc1 (w := nI 2) (pc' := 70) rfl rfl rfl rfl rfl ?_
  refine wp_iload0 (pc' := 71) rfl rfl ?_
  refine wp_iconst (v := nI 2) (pc' := 72) rfl rfl rfl ?_
  refine wp_iushr (pc' := 73) rfl rfl ?_
  refine wp_istore0 (pc' := 74) rfl rfl ?_
  refine wp_iload1 (pc' := 75) rfl rfl ?_
  refine wp_iload0 (pc' := 76) rfl rfl ?_
  refine wp_iconst (v := nI 1) (pc' := 77) rfl rfl rfl ?_
  refine wp_iushr (pc' := 78) rfl rfl ?_
  first | refine wp_iaddN (pc' := 79) rfl (by with_reducible rfl) (by with_reducible rfl) rfl ?_ | refine wp_iadd (pc' := 79) rfl rfl ?_
  refine wp_iret rfl rfl rfl ?_
  exact Qv kk (by decide +kernel) rfl
theorem m_ntz_21 {d : Nat} {K : Nat → Nat × Nat} {I : Nat → Nat → Int32} {L : Nat → Nat → Int64} {R : Nat → Nat → Option Nat} {n s : Nat} {Q : Lo → Lm → Prop} {x : Int32} (hx : (x ^^^ (-1)) &&& (x - nI 1) = nI (2 ^ 21 - 1)) (kk : Q (.inl (some (.int (nI 21)))) (K, I, L, R, n, s)) : Ok (d + 1) 310 [.int x] (K, I, L, R, n, s) Q := by
  refine Ok.enter (F := F_310) (ls := [.int x, lDead]) rfl rfl ?_
  refine wp_iload0 (pc' := 1) rfl rfl ?_
  refine wp_iconst (v := (-1)) (pc' := 2) rfl rfl rfl ?_
  refine wp_ixor (pc' := 3) rfl rfl ?_
  refine wp_iload0 (pc' := 4) rfl rfl ?_
  refine wp_iconst (v := nI 1) (pc' := 5) rfl rfl rfl ?_
  first | refine wp_isubN (pc' := 6) rfl (by with_reducible rfl) (by with_reducible rfl) (by omega) rfl ?_ | refine wp_isub (pc' := 6) rfl rfl ?_
  refine wp_iand (pc' := 7) rfl rfl ?_
  rw [hx]
  refine wp_istore0 (pc' := 8) rfl rfl ?_
  refine wp_iload0 (pc' := 9) rfl rfl ?_
  refine wp_ifgtT rfl (by decide +kernel) ?_
  refine wp_iconst (v := nI 1) (pc' := 18) rfl rfl rfl ?_
  refine wp_istore1 (pc' := 19) rfl (by first | rfl | assumption) rfl ?_
  refine wp_iload0 (pc' := 20) rfl rfl ?_
  refine wp_pool (v := .int (nI 65536)) (pc' := 23) rfl rfl rfl rfl rfl ?_
  refine wp_icmpleF (pc' := 26) rfl (by decide +kernel) rfl ?_
  first | refine wp_iinc1 (w := nI 16) (pc' := 29) rfl rfl rfl (by with_reducible exact nI_add _ _) rfl ?_ | refine wp_iinc1 (w := nI 16) (pc' := 29) rfl rfl rfl rfl rfl ?_
  refine wp_iload0 (pc' := 30) rfl rfl ?_
  refine wp_bipush (v := nI 16) (pc' := 32) rfl rfl rfl ?_
  refine wp_iushr (pc' := 33) rfl rfl ?_
  refine wp_istore0 (pc' := 34) rfl rfl ?_
  refine wp_iload0 (pc' := 35) rfl rfl ?_
  refine wp_sipush (v := nI 256) (pc' := 38) rfl rfl rfl ?_
  refine wp_icmpleT rfl (by decide +kernel) ?_
  refine wp_iload0 (pc' := 50) rfl rfl ?_
  refine wp_bipush (v := nI 16) (pc' := 52) rfl rfl rfl ?_
  refine wp_icmpleF (pc' := 55) rfl (by decide +kernel) rfl ?_
  first | refine wp_iinc1 (w := nI 4) (pc' := 58) rfl rfl rfl (by with_reducible exact nI_add _ _) rfl ?_ | refine wp_iinc1 (w := nI 4) (pc' := 58) rfl rfl rfl rfl rfl ?_
  refine wp_iload0 (pc' := 59) rfl rfl ?_
  refine wp_iconst (v := nI 4) (pc' := 60) rfl rfl rfl ?_
  refine wp_iushr (pc' := 61) rfl rfl ?_
  refine wp_istore0 (pc' := 62) rfl rfl ?_
  refine wp_iload0 (pc' := 63) rfl rfl ?_
  refine wp_iconst (v := nI 4) (pc' := 64) rfl rfl rfl ?_
  refine wp_icmpleT rfl (by decide +kernel) ?_
  refine wp_iload1 (pc' := 75) rfl rfl ?_
  refine wp_iload0 (pc' := 76) rfl rfl ?_
  refine wp_iconst (v := nI 1) (pc' := 77) rfl rfl rfl ?_
  refine wp_iushr (pc' := 78) rfl rfl ?_
  first | refine wp_iaddN (pc' := 79) rfl (by with_reducible rfl) (by with_reducible rfl) rfl ?_ | refine wp_iadd (pc' := 79) rfl rfl ?_
  refine wp_iret rfl rfl rfl ?_
  exact Qv kk (by decide +kernel) rfl
theorem m_ntz_22 {d : Nat} {K : Nat → Nat × Nat} {I : Nat → Nat → Int32} {L : Nat → Nat → Int64} {R : Nat → Nat → Option Nat} {n s : Nat} {Q : Lo → Lm → Prop} {x : Int32} (hx : (x ^^^ (-1)) &&& (x - nI 1) = nI (2 ^ 22 - 1)) (kk : Q (.inl (some (.int (nI 22)))) (K, I, L, R, n, s)) : Ok (d + 1) 310 [.int x] (K, I, L, R, n, s) Q := by
  refine Ok.enter (F := F_310) (ls := [.int x, lDead]) rfl rfl ?_
  refine wp_iload0 (pc' := 1) rfl rfl ?_
  refine wp_iconst (v := (-1)) (pc' := 2) rfl rfl rfl ?_
  refine wp_ixor (pc' := 3) rfl rfl ?_
  refine wp_iload0 (pc' := 4) rfl rfl ?_
  refine wp_iconst (v := nI 1) (pc' := 5) rfl rfl rfl ?_
  first | refine wp_isubN (pc' := 6) rfl (by with_reducible rfl) (by with_reducible rfl) (by omega) rfl ?_ | refine wp_isub (pc' := 6) rfl rfl ?_
  refine wp_iand (pc' := 7) rfl rfl ?_
  rw [hx]
  refine wp_istore0 (pc' := 8) rfl rfl ?_
  refine wp_iload0 (pc' := 9) rfl rfl ?_
  refine wp_ifgtT rfl (by decide +kernel) ?_
  refine wp_iconst (v := nI 1) (pc' := 18) rfl rfl rfl ?_
  refine wp_istore1 (pc' := 19) rfl (by first | rfl | assumption) rfl ?_
  refine wp_iload0 (pc' := 20) rfl rfl ?_
  refine wp_pool (v := .int (nI 65536)) (pc' := 23) rfl rfl rfl rfl rfl ?_
  refine wp_icmpleF (pc' := 26) rfl (by decide +kernel) rfl ?_
  first | refine wp_iinc1 (w := nI 16) (pc' := 29) rfl rfl rfl (by with_reducible exact nI_add _ _) rfl ?_ | refine wp_iinc1 (w := nI 16) (pc' := 29) rfl rfl rfl rfl rfl ?_
  refine wp_iload0 (pc' := 30) rfl rfl ?_
  refine wp_bipush (v := nI 16) (pc' := 32) rfl rfl rfl ?_
  refine wp_iushr (pc' := 33) rfl rfl ?_
  refine wp_istore0 (pc' := 34) rfl rfl ?_
  refine wp_iload0 (pc' := 35) rfl rfl ?_
  refine wp_sipush (v := nI 256) (pc' := 38) rfl rfl rfl ?_
  refine wp_icmpleT rfl (by decide +kernel) ?_
  refine wp_iload0 (pc' := 50) rfl rfl ?_
  refine wp_bipush (v := nI 16) (pc' := 52) rfl rfl rfl ?_
  refine wp_icmpleF (pc' := 55) rfl (by decide +kernel) rfl ?_
  first | refine wp_iinc1 (w := nI 4) (pc' := 58) rfl rfl rfl (by with_reducible exact nI_add _ _) rfl ?_ | refine wp_iinc1 (w := nI 4) (pc' := 58) rfl rfl rfl rfl rfl ?_
  refine wp_iload0 (pc' := 59) rfl rfl ?_
  refine wp_iconst (v := nI 4) (pc' := 60) rfl rfl rfl ?_
  refine wp_iushr (pc' := 61) rfl rfl ?_
  refine wp_istore0 (pc' := 62) rfl rfl ?_
  refine wp_iload0 (pc' := 63) rfl rfl ?_
  refine wp_iconst (v := nI 4) (pc' := 64) rfl rfl rfl ?_
  refine wp_icmpleT rfl (by decide +kernel) ?_
  refine wp_iload1 (pc' := 75) rfl rfl ?_
  refine wp_iload0 (pc' := 76) rfl rfl ?_
  refine wp_iconst (v := nI 1) (pc' := 77) rfl rfl rfl ?_
  refine wp_iushr (pc' := 78) rfl rfl ?_
  first | refine wp_iaddN (pc' := 79) rfl (by with_reducible rfl) (by with_reducible rfl) rfl ?_ | refine wp_iadd (pc' := 79) rfl rfl ?_
  refine wp_iret rfl rfl rfl ?_
  exact Qv kk (by decide +kernel) rfl
theorem m_ntz_23 {d : Nat} {K : Nat → Nat × Nat} {I : Nat → Nat → Int32} {L : Nat → Nat → Int64} {R : Nat → Nat → Option Nat} {n s : Nat} {Q : Lo → Lm → Prop} {x : Int32} (hx : (x ^^^ (-1)) &&& (x - nI 1) = nI (2 ^ 23 - 1)) (kk : Q (.inl (some (.int (nI 23)))) (K, I, L, R, n, s)) : Ok (d + 1) 310 [.int x] (K, I, L, R, n, s) Q := by
  refine Ok.enter (F := F_310) (ls := [.int x, lDead]) rfl rfl ?_
  refine wp_iload0 (pc' := 1) rfl rfl ?_
  refine wp_iconst (v := (-1)) (pc' := 2) rfl rfl rfl ?_
  refine wp_ixor (pc' := 3) rfl rfl ?_
  refine wp_iload0 (pc' := 4) rfl rfl ?_
  refine wp_iconst (v := nI 1) (pc' := 5) rfl rfl rfl ?_
  first | refine wp_isubN (pc' := 6) rfl (by with_reducible rfl) (by with_reducible rfl) (by omega) rfl ?_ | refine wp_isub (pc' := 6) rfl rfl ?_
  refine wp_iand (pc' := 7) rfl rfl ?_
  rw [hx]
  refine wp_istore0 (pc' := 8) rfl rfl ?_
  refine wp_iload0 (pc' := 9) rfl rfl ?_
  refine wp_ifgtT rfl (by decide +kernel) ?_
  refine wp_iconst (v := nI 1) (pc' := 18) rfl rfl rfl ?_
  refine wp_istore1 (pc' := 19) rfl (by first | rfl | assumption) rfl ?_
  refine wp_iload0 (pc' := 20) rfl rfl ?_
  refine wp_pool (v := .int (nI 65536)) (pc' := 23) rfl rfl rfl rfl rfl ?_
  refine wp_icmpleF (pc' := 26) rfl (by decide +kernel) rfl ?_
  first | refine wp_iinc1 (w := nI 16) (pc' := 29) rfl rfl rfl (by with_reducible exact nI_add _ _) rfl ?_ | refine wp_iinc1 (w := nI 16) (pc' := 29) rfl rfl rfl rfl rfl ?_
  refine wp_iload0 (pc' := 30) rfl rfl ?_
  refine wp_bipush (v := nI 16) (pc' := 32) rfl rfl rfl ?_
  refine wp_iushr (pc' := 33) rfl rfl ?_
  refine wp_istore0 (pc' := 34) rfl rfl ?_
  refine wp_iload0 (pc' := 35) rfl rfl ?_
  refine wp_sipush (v := nI 256) (pc' := 38) rfl rfl rfl ?_
  refine wp_icmpleT rfl (by decide +kernel) ?_
  refine wp_iload0 (pc' := 50) rfl rfl ?_
  refine wp_bipush (v := nI 16) (pc' := 52) rfl rfl rfl ?_
  refine wp_icmpleF (pc' := 55) rfl (by decide +kernel) rfl ?_
  first | refine wp_iinc1 (w := nI 4) (pc' := 58) rfl rfl rfl (by with_reducible exact nI_add _ _) rfl ?_ | refine wp_iinc1 (w := nI 4) (pc' := 58) rfl rfl rfl rfl rfl ?_
  refine wp_iload0 (pc' := 59) rfl rfl ?_
  refine wp_iconst (v := nI 4) (pc' := 60) rfl rfl rfl ?_
  refine wp_iushr (pc' := 61) rfl rfl ?_
  refine wp_istore0 (pc' := 62) rfl rfl ?_
  refine wp_iload0 (pc' := 63) rfl rfl ?_
  refine wp_iconst (v := nI 4) (pc' := 64) rfl rfl rfl ?_
  refine wp_icmpleF (pc' := 67) rfl (by decide +kernel) rfl ?_
  first | refine wp_iinc1 (w := nI 2) (pc' := 70) rfl rfl rfl (by with_reducible exact nI_add _ _) rfl ?_ | refine wp_iinc1 (w := nI 2) (pc' := 70) rfl rfl rfl rfl rfl ?_
  refine wp_iload0 (pc' := 71) rfl rfl ?_
  refine wp_iconst (v := nI 2) (pc' := 72) rfl rfl rfl ?_
  refine wp_iushr (pc' := 73) rfl rfl ?_
  refine wp_istore0 (pc' := 74) rfl rfl ?_
  refine wp_iload1 (pc' := 75) rfl rfl ?_
  refine wp_iload0 (pc' := 76) rfl rfl ?_
  refine wp_iconst (v := nI 1) (pc' := 77) rfl rfl rfl ?_
  refine wp_iushr (pc' := 78) rfl rfl ?_
  first | refine wp_iaddN (pc' := 79) rfl (by with_reducible rfl) (by with_reducible rfl) rfl ?_ | refine wp_iadd (pc' := 79) rfl rfl ?_
  refine wp_iret rfl rfl rfl ?_
  exact Qv kk (by decide +kernel) rfl
theorem m_ntz_24 {d : Nat} {K : Nat → Nat × Nat} {I : Nat → Nat → Int32} {L : Nat → Nat → Int64} {R : Nat → Nat → Option Nat} {n s : Nat} {Q : Lo → Lm → Prop} {x : Int32} (hx : (x ^^^ (-1)) &&& (x - nI 1) = nI (2 ^ 24 - 1)) (kk : Q (.inl (some (.int (nI 24)))) (K, I, L, R, n, s)) : Ok (d + 1) 310 [.int x] (K, I, L, R, n, s) Q := by
  refine Ok.enter (F := F_310) (ls := [.int x, lDead]) rfl rfl ?_
  refine wp_iload0 (pc' := 1) rfl rfl ?_
  refine wp_iconst (v := (-1)) (pc' := 2) rfl rfl rfl ?_
  refine wp_ixor (pc' := 3) rfl rfl ?_
  refine wp_iload0 (pc' := 4) rfl rfl ?_
  refine wp_iconst (v := nI 1) (pc' := 5) rfl rfl rfl ?_
  first | refine wp_isubN (pc' := 6) rfl (by with_reducible rfl) (by with_reducible rfl) (by omega) rfl ?_ | refine wp_isub (pc' := 6) rfl rfl ?_
  refine wp_iand (pc' := 7) rfl rfl ?_
  rw [hx]
  refine wp_istore0 (pc' := 8) rfl rfl ?_
  refine wp_iload0 (pc' := 9) rfl rfl ?_
  refine wp_ifgtT rfl (by decide +kernel) ?_
  refine wp_iconst (v := nI 1) (pc' := 18) rfl rfl rfl ?_
  refine wp_istore1 (pc' := 19) rfl (by first | rfl | assumption) rfl ?_
  refine wp_iload0 (pc' := 20) rfl rfl ?_
  refine wp_pool (v := .int (nI 65536)) (pc' := 23) rfl rfl rfl rfl rfl ?_
  refine wp_icmpleF (pc' := 26) rfl (by decide +kernel) rfl ?_
  first | refine wp_iinc1 (w := nI 16) (pc' := 29) rfl rfl rfl (by with_reducible exact nI_add _ _) rfl ?_ | refine wp_iinc1 (w := nI 16) (pc' := 29) rfl rfl rfl rfl rfl ?_
  refine wp_iload0 (pc' := 30) rfl rfl ?_
  refine wp_bipush (v := nI 16) (pc' := 32) rfl rfl rfl ?_
  refine wp_iushr (pc' := 33) rfl rfl ?_
  refine wp_istore0 (pc' := 34) rfl rfl ?_
  refine wp_iload0 (pc' := 35) rfl rfl ?_
  refine wp_sipush (v := nI 256) (pc' := 38) rfl rfl rfl ?_
  refine wp_icmpleT rfl (by decide +kernel) ?_
  refine wp_iload0 (pc' := 50) rfl rfl ?_
  refine wp_bipush (v := nI 16) (pc' := 52) rfl rfl rfl ?_
  refine wp_icmpleF (pc' := 55) rfl (by decide +kernel) rfl ?_
  first | refine wp_iinc1 (w := nI 4) (pc' := 58) rfl rfl rfl (by with_reducible exact nI_add _ _) rfl ?_ | refine wp_iinc1 (w := nI 4) (pc' := 58) rfl rfl rfl rfl rfl ?_
  refine wp_iload0 (pc' := 59) rfl rfl ?_
  refine wp_iconst (v := nI 4) (pc' := 60) rfl rfl rfl ?_
  refine wp_iushr (pc' := 61) rfl rfl ?_
  refine wp_istore0 (pc' := 62) rfl rfl ?_
  refine wp_iload0 (pc' := 63) rfl rfl ?_
  refine wp_iconst (v := nI 4) (pc' := 64) rfl rfl rfl ?_
  refine wp_icmpleF (pc' := 67) rfl (by decide +kernel) rfl ?_
  first | refine wp_iinc1 (w := nI 2) (pc' := 70) rfl rfl rfl (by with_reducible exact nI_add _ _) rfl ?_ | refine wp_iinc1 (w := nI 2) (pc' := 70) rfl rfl rfl rfl rfl ?_
  refine wp_iload0 (pc' := 71) rfl rfl ?_
  refine wp_iconst (v := nI 2) (pc' := 72) rfl rfl rfl ?_
  refine wp_iushr (pc' := 73) rfl rfl ?_
  refine wp_istore0 (pc' := 74) rfl rfl ?_
  refine wp_iload1 (pc' := 75) rfl rfl ?_
  refine wp_iload0 (pc' := 76) rfl rfl ?_
  refine wp_iconst (v := nI 1) (pc' := 77) rfl rfl rfl ?_
  refine wp_iushr (pc' := 78) rfl rfl ?_
  first | refine wp_iaddN (pc' := 79) rfl (by with_reducible rfl) (by with_reducible rfl) rfl ?_ | refine wp_iadd (pc' := 79) rfl rfl ?_
  refine wp_iret rfl rfl rfl ?_
  exact Qv kk (by decide +kernel) rfl
theorem m_ntz {d : Nat} {K : Nat → Nat × Nat} {I : Mem} {L : Nat → Nat → Int64} {R : Nat → Nat → Option Nat} {n s : Nat} {Q : Lo → Lm → Prop} {x : Int32} {c : Nat} (hc : c < 25) (hx : (x ^^^ (-1)) &&& (x - nI 1) = nI (2 ^ c - 1)) (kk : Q (.inl (some (.int (nI c)))) (K, I, L, R, n, s)) : Ok (d + 1) 310 [.int x] (K, I, L, R, n, s) Q := by
  have hcs : c = 0 ∨ c = 1 ∨ c = 2 ∨ c = 3 ∨ c = 4 ∨ c = 5 ∨ c = 6 ∨ c = 7 ∨ c = 8 ∨ c = 9 ∨ c = 10 ∨ c = 11 ∨ c = 12 ∨ c = 13 ∨ c = 14 ∨ c = 15 ∨ c = 16 ∨ c = 17 ∨ c = 18 ∨ c = 19 ∨ c = 20 ∨ c = 21 ∨ c = 22 ∨ c = 23 ∨ c = 24 := by omega
  rcases hcs with rfl | rfl | rfl | rfl | rfl | rfl | rfl | rfl | rfl | rfl | rfl | rfl | rfl | rfl | rfl | rfl | rfl | rfl | rfl | rfl | rfl | rfl | rfl | rfl | rfl
  · exact m_ntz_0 hx kk
  · exact m_ntz_1 hx kk
  · exact m_ntz_2 hx kk
  · exact m_ntz_3 hx kk
  · exact m_ntz_4 hx kk
  · exact m_ntz_5 hx kk
  · exact m_ntz_6 hx kk
  · exact m_ntz_7 hx kk
  · exact m_ntz_8 hx kk
  · exact m_ntz_9 hx kk
  · exact m_ntz_10 hx kk
  · exact m_ntz_11 hx kk
  · exact m_ntz_12 hx kk
  · exact m_ntz_13 hx kk
  · exact m_ntz_14 hx kk
  · exact m_ntz_15 hx kk
  · exact m_ntz_16 hx kk
  · exact m_ntz_17 hx kk
  · exact m_ntz_18 hx kk
  · exact m_ntz_19 hx kk
  · exact m_ntz_20 hx kk
  · exact m_ntz_21 hx kk
  · exact m_ntz_22 hx kk
  · exact m_ntz_23 hx kk
  · exact m_ntz_24 hx kk
theorem m_low {d : Nat} {K : Nat → Nat × Nat} {I : Mem} {L : Nat → Nat → Int64} {R : Nat → Nat → Option Nat} {n s : Nat} {Q : Lo → Lm → Prop} {x : Int32} (hx : low25 x) (h0 : ¬ x = nI 0) (kk : Q (.inl (some (.int (nI (lo1 x))))) (K, I, L, R, n, s)) : Ok (d + 1) 310 [.int x] (K, I, L, R, n, s) Q := by
  obtain ⟨a1, a2, a3⟩ := lo1_spec hx h0
  exact m_ntz a1 (ntz_arg a1 a2 a3) kk
theorem up1_ext {α : Type} {V p : Nat → α} {i : Nat} (h : ∀ j, j < i → V j = p j) : ∀ j, j < i + 1 → up1 V i (p i) j = p j := fun j hj => by
  by_cases e : j = i
  · rw [e, up1_hit]
  · rw [up1_ne e]; exact h j (by omega)
def rpS (a : Int32) (p : Int32 × Int32) : Int32 × Int32 := if p.1 = nI 0 then p else (p.1 &&& (pieC (lo1 p.1) a ^^^ (-1)), p.2 + nI 1)
def rpF (a : Int32) (i : Nat) : Int32 × Int32 := forN (fun _ p => rpS a p) (a, nI 0) i
def rpC (a : Int32) : Int32 := (rpF a 25).2
theorem rpF_s {a : Int32} {i : Nat} : rpF a (i + 1) = rpS a (rpF a i) := rfl
theorem rpF_stay {a : Int32} {i : Nat} (h : (rpF a i).1 = nI 0) : ∀ {k : Nat}, i ≤ k → rpF a k = rpF a i := by
  intro k
  induction k with
  | zero => intro hk; rw [show i = 0 by omega]
  | succ k ih =>
    intro hk
    by_cases e : i = k + 1
    · rw [e]
    · rw [rpF_s, ih (by omega), rpS, if_pos h]
theorem pie_own {c : Nat} {a : Int32} (hc : c < 25) (ha : low25 a) (h : btI a c = true) : btI (pieC c a) c = true := by
  unfold pieC
  rw [pieN_it (low25_and (low25_s1 hc))]
  refine it_mono (i := 0) ?_ 25 (by omega)
  show btI (jshl (nI 1) (nI c) &&& a) c = true
  rw [b_and, bt_s1 c (by omega) c (by omega), h, decide_eq_true rfl]; rfl
theorem rp_ok {a : Int32} (ha : low25 a) : ∀ i, low25 (rpF a i).1 ∧ ∀ j, j < 25 → btI (rpF a i).1 j = true → btI a j = true
  | 0 => ⟨ha, fun j _ h => h⟩
  | i + 1 => by
    obtain ⟨h1, h2⟩ := rp_ok ha i
    rw [rpF_s, rpS]
    split
    · exact ⟨h1, h2⟩
    · refine ⟨low25_and h1, fun j hj hb => h2 j hj ?_⟩
      dsimp only at hb
      rw [b_and, Bool.and_eq_true] at hb
      exact hb.1
theorem rp_less {a : Int32} (ha : low25 a) {i : Nat} (h0 : ¬ (rpF a i).1 = nI 0) : cdN (rpF a (i + 1)).1 25 + 1 ≤ cdN (rpF a i).1 25 := by
  obtain ⟨h1, h2⟩ := rp_ok ha i
  obtain ⟨a1, a2, a3⟩ := lo1_spec h1 h0
  rw [rpF_s, rpS, if_neg h0]
  refine cdN_lt (fun j _ hb => ?_) (c := lo1 (rpF a i).1) ?_ a2 25 (Nat.le_refl _) a1
  · dsimp only at hb
    rw [b_and, Bool.and_eq_true] at hb
    exact hb.1
  · dsimp only
    rw [b_and, bt_nt (by omega), pie_own a1 ha (h2 _ a1 a2)]
    cases btI (rpF a i).1 (lo1 (rpF a i).1) <;> rfl
theorem cdN_0 {x : Int32} (hx : low25 x) (h : cdN x 25 = 0) : x = nI 0 := by
  apply Classical.byContradiction
  intro h0
  obtain ⟨c, hc, h1⟩ := some_bt hx h0
  have := cdN_pos h1 25 hc
  omega

theorem m_piecesOf {d : Nat} {K : Nat → Nat × Nat} {I : Nat → Nat → Int32} {L : Nat → Nat → Int64} {R : Nat → Nat → Option Nat} {n s : Nat} {Q : Lo → Lm → Prop} {a : Int32} (ha : low25 a) (kk : Q (.inl (some (.int (rpC a)))) (K, I, L, R, n, s)) : Ok (d + 4) 340 [.int a] (K, I, L, R, n, s) Q := by
  refine Ok.enter (F := F_340) (ls := [.int a, lDead, lDead]) rfl rfl ?_
  refine wp_iload0 (pc' := 1) rfl rfl ?_
  refine wp_istore1 (pc' := 2) rfl (by first | rfl | assumption) rfl ?_
  refine wp_iconst (v := nI 0) (pc' := 3) rfl rfl rfl ?_
  refine wp_istore2 (pc' := 4) rfl (by first | rfl | assumption) rfl ?_
  have lp4 : ∀ r (i : Nat), i + cdN (rpF a i).1 25 ≤ 25 ∧ cdN (rpF a i).1 25 ≤ r → WP (d + 3) F_340 4 [.int a, .int (rpF a i).1, .int (rpF a i).2] [] (K, I, L, R, n, s) Q := by
    intro r; induction r with
    | zero =>
      intro i hi 
      have h5 : (rpF a i).1 = nI 0 := cdN_0 (rp_ok ha i).1 (by omega)
      refine wp_iload1 (pc' := 5) rfl rfl ?_
      refine wp_ifeqT rfl h5 ?_
      refine wp_iload2 (pc' := 28) rfl rfl ?_
      refine wp_iret rfl rfl rfl ?_
      exact Qv kk (by show _ = (rpF a 25).2; rw [rpF_stay h5 (show i ≤ 25 by omega)]) rfl
    | succ r ih =>
      intro i hi 
      refine wp_iload1 (pc' := 5) rfl rfl ?_
      first | refine wp_ifeqB (pc' := 8) rfl rfl ?_ ?_ | refine wp_ifeq (pc' := 8) rfl rfl ?_ ?_
      · intro h5
        refine wp_iload2 (pc' := 28) rfl rfl ?_
        refine wp_iret rfl rfl rfl ?_
        exact Qv kk (by show _ = (rpF a 25).2; rw [rpF_stay h5 (show i ≤ 25 by omega)]) rfl
      · intro h5
        refine wp_iload1 (pc' := 9) rfl rfl ?_
        refine wp_iload1 (pc' := 10) rfl rfl ?_
        refine wp_callS1 (pc' := 13) rfl rfl rfl rfl rfl rfl ?_
        refine m_low (rp_ok ha i).1 h5 ?_
        refine Cont.v ?_
        refine wp_iload0 (pc' := 14) rfl rfl ?_
        refine wp_callS2 (pc' := 17) rfl rfl rfl rfl rfl rfl ?_
        refine m_pieceOf ?_
        refine Cont.v ?_
        refine wp_iconst (v := (-1)) (pc' := 18) rfl rfl rfl ?_
        refine wp_ixor (pc' := 19) rfl rfl ?_
        refine wp_iand (pc' := 20) rfl rfl ?_
        refine wp_istore1 (pc' := 21) rfl (by first | rfl | assumption) rfl ?_
        first | refine wp_iinc2 (w := nI 1) (pc' := 24) rfl rfl rfl (by with_reducible exact nI_add _ _) rfl ?_ | refine wp_iinc2 (w := nI 1) (pc' := 24) rfl rfl rfl rfl rfl ?_
        refine wp_goto rfl ?_
        exact WP.cg (ih (i + 1) (by have := rp_less ha h5; omega)) (lI1 (by first | with_reducible rfl | (rw [rpF_s, rpS, if_neg h5]; done)) (lI1 (by first | with_reducible rfl | (rw [rpF_s, rpS, if_neg h5]; done)) (lI1 (by first | with_reducible rfl | (rw [rpF_s, rpS, if_neg h5]; done)) rfl))) rfl (by rfl)
  exact WP.cg (lp4 25 (0) ⟨by show 0 + cdN a 25 ≤ 25; have := cdN_le (x := a) 25; omega, cdN_le 25⟩) (lI1 (by rfl) (lI1 (by rfl) (lI1 (by rfl) rfl))) rfl (by rfl)
theorem peat_low (S : Mem) : ∀ i, i ≤ 25 → low25 (forN (fun c f => if nI 0 < S 1 c then f ||| jshl (nI 1) (nI c) else f) (nI 0) i)
  | 0 => fun _ => low25_0
  | i + 1 => fun hi => by
    have ih := peat_low S i (by omega)
    rw [forN]
    split
    · exact low25_or ih (low25_s1 (by omega))
    · exact ih
theorem low25_peat (S : Mem) : low25 (peatS S) := peat_low S 25 (Nat.le_refl _)
def brR (p : Int32) (i : Nat) : Int32 := forN (fun c f => f ||| (if hasP p c ∧ rpC p < rpC (p &&& (jshl (nI 1) (nI c) ^^^ (-1))) then jshl (nI 1) (nI c) else nI 0)) (nI 0) i
theorem brR_s {p : Int32} {i : Nat} : brR p (i + 1) = brR p i ||| (if hasP p i ∧ rpC p < rpC (p &&& (jshl (nI 1) (nI i) ^^^ (-1))) then jshl (nI 1) (nI i) else nI 0) := rfl

theorem m_hags {d : Nat} {K : Nat → Nat × Nat} {I : Nat → Nat → Int32} {L : Nat → Nat → Int64} {R : Nat → Nat → Option Nat} {n s : Nat} {Q : Lo → Lm → Prop}  (hT : TK K R n) (kk : Q (.inl (some (.int (rpC (peatS (Sv (I 319))))))) (K, up2 I 318 0 (nI 0), L, R, n, s)) : Ok (d + 5) 338 [.ref 318] (K, I, L, R, n, s) Q := by
  obtain ⟨-, -, hn⟩ := id hT
  refine Ok.enter (F := F_338) (ls := [.ref 318]) rfl rfl ?_
  refine wp_aload0 (pc' := 1) rfl rfl ?_
  refine wp_iconst (v := nI 0) (pc' := 2) rfl rfl rfl ?_
  refine wp_putI (pc' := 5) rfl rfl (by first | exact TK.k1 hT rfl | exact TK.kk hT rfl | exact TK.r hT rfl | assumption) (by omega) rfl ?_
  obtain ⟨M, hM⟩ : ∃ M, M = up2 I 318 0 (nI 0) := ⟨_, rfl⟩
  have hM9 : M 319 = I 319 := by rw [hM]; exact up2_row (by decide)
  have hM7 : M 318 7 = I 318 7 := by rw [hM, up2_same, if_neg (by decide)]
  rw [← hM]
  refine wp_aload0 (pc' := 6) rfl rfl ?_
  refine wp_callV1 (pc' := 9) rfl rfl rfl rfl rfl (by first | exact TK.k1 hT rfl | exact TK.kk hT rfl | exact TK.r hT rfl | assumption) rfl rfl ?_
  refine m_peat hT ?_
  rw [hM9]
  refine Cont.v ?_
  refine wp_callS1 (pc' := 12) rfl rfl rfl rfl rfl rfl ?_
  refine m_piecesOf (low25_peat _) ?_
  refine Cont.v ?_
  refine wp_iret rfl rfl rfl ?_
  rw [hM]
  exact kk
theorem m_bridges {d : Nat} {K : Nat → Nat × Nat} {I : Nat → Nat → Int32} {L : Nat → Nat → Int64} {R : Nat → Nat → Option Nat} {n s : Nat} {Q : Lo → Lm → Prop}  (hT : TK K R n) (kk : Q (.inl (some (.int (brR (peatS (Sv (I 319))) 25)))) (K, up2 I 318 0 (nI 0), L, R, n, s)) : Ok (d + 5) 342 [.ref 318] (K, I, L, R, n, s) Q := by
  obtain ⟨-, -, hn⟩ := id hT
  refine Ok.enter (F := F_342) (ls := [.ref 318, lDead, lDead, lDead]) rfl rfl ?_
  refine wp_aload0 (pc' := 1) rfl rfl ?_
  refine wp_iconst (v := nI 0) (pc' := 2) rfl rfl rfl ?_
  refine wp_putI (pc' := 5) rfl rfl (by first | exact TK.k1 hT rfl | exact TK.kk hT rfl | exact TK.r hT rfl | assumption) (by omega) rfl ?_
  obtain ⟨M, hM⟩ : ∃ M, M = up2 I 318 0 (nI 0) := ⟨_, rfl⟩
  have hM9 : M 319 = I 319 := by rw [hM]; exact up2_row (by decide)
  have hM7 : M 318 7 = I 318 7 := by rw [hM, up2_same, if_neg (by decide)]
  rw [← hM]
  refine wp_aload0 (pc' := 6) rfl rfl ?_
  refine wp_callV1 (pc' := 9) rfl rfl rfl rfl rfl (by first | exact TK.k1 hT rfl | exact TK.kk hT rfl | exact TK.r hT rfl | assumption) rfl rfl ?_
  refine m_peat hT ?_
  rw [hM9]
  refine Cont.v ?_
  refine wp_istore1 (pc' := 10) rfl (by first | rfl | assumption) rfl ?_
  refine wp_iconst (v := nI 0) (pc' := 11) rfl rfl rfl ?_
  refine wp_istore2 (pc' := 12) rfl (by first | rfl | assumption) rfl ?_
  refine wp_iconst (v := nI 0) (pc' := 13) rfl rfl rfl ?_
  refine wp_istore3 (pc' := 14) rfl (by first | rfl | assumption) rfl ?_
  have lp14 : ∀ r (i : Nat), i + r = 25 → WP (d + 4) F_342 14 [.ref 318, .int (peatS (Sv (I 319))), .int (brR (peatS (Sv (I 319))) i), .int (nI i)] [] (K, M, L, R, n, s) Q := by
    intro r; induction r with
    | zero =>
      intro i hi 
      have hi2 : i = 25 := by omega
      subst hi2
      refine wp_iload3 (pc' := 15) rfl rfl ?_
      refine wp_bipush (v := nI 25) (pc' := 17) rfl rfl rfl ?_
      refine wp_icmpgeT rfl (nI_nlt (by omega) (by omega)) ?_
      refine wp_iload2 (pc' := 62) rfl rfl ?_
      refine wp_iret rfl rfl rfl ?_
      rw [hM]
      exact kk
    | succ r ih =>
      intro i hi 
      have hlt : i < 25 := by omega
      refine wp_iload3 (pc' := 15) rfl rfl ?_
      refine wp_bipush (v := nI 25) (pc' := 17) rfl rfl rfl ?_
      refine wp_icmpgeF (pc' := 20) rfl (nI_lt (by omega) (by omega)) rfl ?_
      refine wp_iload2 (pc' := 21) rfl rfl ?_
      refine wp_iload1 (pc' := 22) rfl rfl ?_
      refine wp_iload3 (pc' := 23) rfl rfl ?_
      refine wp_callS2 (pc' := 26) rfl rfl rfl rfl rfl rfl ?_
      refine m_has ?_
      refine Cont.v ?_
      first | refine wp_ifeqB (pc' := 29) rfl rfl ?_ ?_ | refine wp_ifeq (pc' := 29) rfl rfl ?_ ?_
      · intro h26
        refine wp_iconst (v := nI 0) (pc' := 53) rfl rfl rfl ?_
        refine wp_ior (pc' := 54) rfl rfl ?_
        refine wp_istore2 (pc' := 55) rfl (by first | rfl | assumption) rfl ?_
        first | refine wp_iinc3 (w := nI 1) (pc' := 58) rfl rfl rfl (by with_reducible exact nI_add _ _) rfl ?_ | refine wp_iinc3 (w := nI 1) (pc' := 58) rfl rfl rfl rfl rfl ?_
        refine wp_goto rfl ?_
        exact WP.cg (ih (i + 1) (by omega)) (lC1 (lI1 (by first | with_reducible rfl | (rw [brR_s, if_pos (And.intro h26 h43)]; done) | (rw [brR_s, if_neg (fun q => h43 q.2)]; done) | (rw [brR_s, if_neg (fun q => h26 q.1)]; done)) (lI1 (by first | with_reducible rfl | (rw [brR_s, if_pos (And.intro h26 h43)]; done) | (rw [brR_s, if_neg (fun q => h43 q.2)]; done) | (rw [brR_s, if_neg (fun q => h26 q.1)]; done)) (lI1 (by first | with_reducible rfl | (rw [brR_s, if_pos (And.intro h26 h43)]; done) | (rw [brR_s, if_neg (fun q => h43 q.2)]; done) | (rw [brR_s, if_neg (fun q => h26 q.1)]; done)) rfl)))) rfl (by rfl)
      · intro h26
        refine wp_iload1 (pc' := 30) rfl rfl ?_
        refine wp_iconst (v := nI 1) (pc' := 31) rfl rfl rfl ?_
        refine wp_iload3 (pc' := 32) rfl rfl ?_
        refine wp_ishl (pc' := 33) rfl rfl ?_
        refine wp_iconst (v := (-1)) (pc' := 34) rfl rfl rfl ?_
        refine wp_ixor (pc' := 35) rfl rfl ?_
        refine wp_iand (pc' := 36) rfl rfl ?_
        refine wp_callS1 (pc' := 39) rfl rfl rfl rfl rfl rfl ?_
        refine m_piecesOf (low25_and (low25_peat _)) ?_
        refine Cont.v ?_
        refine wp_iload1 (pc' := 40) rfl rfl ?_
        refine wp_callS1 (pc' := 43) rfl rfl rfl rfl rfl rfl ?_
        refine m_piecesOf (low25_peat _) ?_
        refine Cont.v ?_
        refine wp_icmple (pc' := 46) rfl rfl ?_ ?_
        · intro h43
          refine wp_iconst (v := nI 0) (pc' := 53) rfl rfl rfl ?_
          refine wp_ior (pc' := 54) rfl rfl ?_
          refine wp_istore2 (pc' := 55) rfl (by first | rfl | assumption) rfl ?_
          first | refine wp_iinc3 (w := nI 1) (pc' := 58) rfl rfl rfl (by with_reducible exact nI_add _ _) rfl ?_ | refine wp_iinc3 (w := nI 1) (pc' := 58) rfl rfl rfl rfl rfl ?_
          refine wp_goto rfl ?_
          exact WP.cg (ih (i + 1) (by omega)) (lC1 (lI1 (by first | with_reducible rfl | (rw [brR_s, if_pos (And.intro h26 h43)]; done) | (rw [brR_s, if_neg (fun q => h43 q.2)]; done) | (rw [brR_s, if_neg (fun q => h26 q.1)]; done)) (lI1 (by first | with_reducible rfl | (rw [brR_s, if_pos (And.intro h26 h43)]; done) | (rw [brR_s, if_neg (fun q => h43 q.2)]; done) | (rw [brR_s, if_neg (fun q => h26 q.1)]; done)) (lI1 (by first | with_reducible rfl | (rw [brR_s, if_pos (And.intro h26 h43)]; done) | (rw [brR_s, if_neg (fun q => h43 q.2)]; done) | (rw [brR_s, if_neg (fun q => h26 q.1)]; done)) rfl)))) rfl (by rfl)
        · intro h43
          refine wp_iconst (v := nI 1) (pc' := 47) rfl rfl rfl ?_
          refine wp_iload3 (pc' := 48) rfl rfl ?_
          refine wp_ishl (pc' := 49) rfl rfl ?_
          refine wp_goto rfl ?_
          refine wp_ior (pc' := 54) rfl rfl ?_
          refine wp_istore2 (pc' := 55) rfl (by first | rfl | assumption) rfl ?_
          first | refine wp_iinc3 (w := nI 1) (pc' := 58) rfl rfl rfl (by with_reducible exact nI_add _ _) rfl ?_ | refine wp_iinc3 (w := nI 1) (pc' := 58) rfl rfl rfl rfl rfl ?_
          refine wp_goto rfl ?_
          exact WP.cg (ih (i + 1) (by omega)) (lC1 (lI1 (by first | with_reducible rfl | (rw [brR_s, if_pos (And.intro h26 h43)]; done) | (rw [brR_s, if_neg (fun q => h43 q.2)]; done) | (rw [brR_s, if_neg (fun q => h26 q.1)]; done)) (lI1 (by first | with_reducible rfl | (rw [brR_s, if_pos (And.intro h26 h43)]; done) | (rw [brR_s, if_neg (fun q => h43 q.2)]; done) | (rw [brR_s, if_neg (fun q => h26 q.1)]; done)) (lI1 (by first | with_reducible rfl | (rw [brR_s, if_pos (And.intro h26 h43)]; done) | (rw [brR_s, if_neg (fun q => h43 q.2)]; done) | (rw [brR_s, if_neg (fun q => h26 q.1)]; done)) rfl)))) rfl (by rfl)
  exact WP.cg (lp14 (25 - (0)) (0) (by omega)) (lC1 (lI1 (by rfl) (lI1 (by rfl) (lI1 (by rfl) rfl)))) rfl (by rfl)
def wyS (sh : Int32) (V : Nat → Int64) (i : Nat) : Nat → Int64 := up1 V i (V i * (nI 100 - sh).toInt64 + (if i = 0 then 0 else V (i - 1) * sh.toInt64))
def wyR (sh : Int32) (V : Nat → Int64) (k : Nat) : Nat → Int64 := forN (fun k U => wyS sh U (5 - k)) V k
def wy0 : Nat → Int64 := fun j => if j = 0 then 1 else 0
def wyD (sh : Int32) (d : Nat) : Nat → Int64 := forN (fun _ V => wyR sh V 6) wy0 d
def wyA (d : Nat) : Int64 := forN (fun _ x => x * 100) 1 d
def wyM (V : Nat → Int64) (k t : Nat) : Int64 := forN (fun t x => x + V (k + t)) 0 t
def rodV (sh : Int32) (a c : Nat) : Int32 := (10000 * wyM (wyD sh a) c (6 - c) / wyA a).toInt32
theorem wyA_ne : ∀ d, d ≤ 5 → ¬ wyA d = 0 := by decide +kernel
theorem wyS_ag {sh : Int32} {U V : Nat → Int64} {i : Nat} (hi : i < 6) (h : ∀ j, j < 6 → U j = V j) : ∀ j, j < 6 → up1 U i (V i * (nI 100 - sh).toInt64 + (if i = 0 then 0 else V (i - 1) * sh.toInt64)) j = wyS sh V i j := by
  intro j hj
  unfold wyS up1
  split
  · rfl
  · exact h j hj
theorem up2_L {L : Nat → Nat → Int64} {a j : Nat} {V : Nat → Int64} {v : Int64} : up2 (upr L a V) a j v = upr L a (up1 V j v) := up2_upr
theorem d65 : ∀ k, k < 6 → nI (5 - k) + (-1) = nI 5 - nI (k + 1) := by decide +kernel

theorem m_odds {d : Nat} {K : Nat → Nat × Nat} {I : Nat → Nat → Int32} {L : Nat → Nat → Int64} {R : Nat → Nat → Option Nat} {n s : Nat} {Q : Lo → Lm → Prop} {a c : Nat} (hT : TK K R n) (ha : a ≤ 5) (hc : c ≤ 5) (kk : ∀ V, Q (.inl (some (.int (rodV (I 319 4) a c)))) (K, up2 I 318 0 (nI 0), upr L 336 V, R, n, s)) : Ok (d + 2) 350 [.ref 318, .int (nI a), .int (nI c)] (K, I, L, R, n, s) Q := by
  obtain ⟨-, -, hn⟩ := id hT
  refine Ok.enter (F := F_350) (ls := [.ref 318, .int (nI a), .int (nI c), lDead, lDead, lDead, lDead, lDead]) rfl rfl ?_
  refine wp_aload0 (pc' := 1) rfl rfl ?_
  refine wp_iconst (v := nI 0) (pc' := 2) rfl rfl rfl ?_
  refine wp_putI (pc' := 5) rfl rfl (by first | exact TK.k1 hT rfl | exact TK.kk hT rfl | exact TK.r hT rfl | assumption) (by omega) rfl ?_
  obtain ⟨M, hM⟩ : ∃ M, M = up2 I 318 0 (nI 0) := ⟨_, rfl⟩
  have hM9 : M 319 = I 319 := by rw [hM]; exact up2_row (by decide)
  have hM7 : M 318 7 = I 318 7 := by rw [hM, up2_same, if_neg (by decide)]
  rw [← hM]
  refine wp_aload0 (pc' := 6) rfl rfl ?_
  refine wp_iload1 (pc' := 7) rfl rfl ?_
  refine wp_iconst (v := nI 0) (pc' := 8) rfl rfl rfl ?_
  refine wp_iconst (v := nI 5) (pc' := 9) rfl rfl rfl ?_
  refine wp_callS3 (pc' := 12) rfl rfl rfl rfl rfl rfl ?_
  refine m_in1 (by exact nI_pos (by omega)) (nI_nlt (by omega) (by omega)) ?_
  refine Cont.v ?_
  refine wp_ifeqF (pc' := 15) rfl (by decide) rfl ?_
  refine wp_iload2 (pc' := 16) rfl rfl ?_
  refine wp_iconst (v := nI 0) (pc' := 17) rfl rfl rfl ?_
  refine wp_iconst (v := nI 5) (pc' := 18) rfl rfl rfl ?_
  refine wp_callS3 (pc' := 21) rfl rfl rfl rfl rfl rfl ?_
  refine m_in1 (by exact nI_pos (by omega)) (nI_nlt (by omega) (by omega)) ?_
  refine Cont.v ?_
  refine wp_ifneT rfl (by decide) ?_
  refine wp_iconst (v := nI 0) (pc' := 29) rfl rfl rfl ?_
  refine wp_iconst (v := nI 1) (pc' := 30) rfl rfl rfl ?_
  refine wp_callV3 (pc' := 33) rfl rfl rfl rfl rfl (by first | exact TK.k1 hT rfl | exact TK.kk hT rfl | exact TK.r hT rfl | assumption) rfl rfl ?_
  refine m_tfN hT ?_
  refine Cont.v ?_
  refine wp_ifeqT rfl rfl ?_
  refine wp_lconst (v := 1) (pc' := 39) rfl rfl rfl ?_
  refine wp_lstore3 (pc' := 40) rfl (by first | rfl | assumption) rfl ?_
  refine wp_iconst (v := nI 0) (pc' := 41) rfl rfl rfl ?_
  refine wp_istore5 (pc' := 43) rfl (by first | rfl | assumption) rfl ?_
  have lp43 : ∀ r (i : Nat) (V : Nat → Int64), i + r = 6 → (∀ j, j < i → V j = wy0 j) → WP (d + 1) F_350 43 [.ref 318, .int (nI a), .int (nI c), .long 1, lDead, .int (nI i), lDead, lDead] [] (K, M, upr L 336 V, R, n, s) Q := by
    intro r; induction r with
    | zero =>
      intro i V hi hv0
      have hi2 : i = 6 := by omega
      subst hi2
      refine wp_iload5 (pc' := 45) rfl rfl ?_
      refine wp_iconst (v := nI 5) (pc' := 46) rfl rfl rfl ?_
      refine wp_icmpgtT rfl (nI_lt (by omega) (by omega)) ?_
      refine wp_iconst (v := nI 0) (pc' := 73) rfl rfl rfl ?_
      refine wp_istore5 (pc' := 75) rfl (by first | rfl | assumption) rfl ?_
      have lp75 : ∀ rb (i : Nat) (V : Nat → Int64) (v6 : Value), i + rb = a → (∀ j, j < 6 → V j = wyD (I 319 4) i j) → isL v6 = false → WP (d + 1) F_350 75 [.ref 318, .int (nI a), .int (nI c), .long (wyA i), lDead, .int (nI i), v6, lDead] [] (K, M, upr L 336 V, R, n, s) Q := by
        intro rb; induction rb with
        | zero =>
          intro i V v6 hib hvb0 hvb1
          have hi2b : i = a := by omega
          have hi3 := hi2b.symm
          subst hi3
          refine wp_iload5 (pc' := 77) rfl rfl ?_
          refine wp_iload1 (pc' := 78) rfl rfl ?_
          refine wp_icmpgeT rfl (nI_nlt (by omega) (by omega)) ?_
          refine wp_lconst (v := 0) (pc' := 160) rfl rfl rfl ?_
          refine wp_lstore5 (pc' := 162) rfl (by first | rfl | assumption) rfl ?_
          refine wp_iload2 (pc' := 163) rfl rfl ?_
          refine wp_istore7 (pc' := 165) rfl (by first | rfl | assumption) rfl ?_
          have lp165 : ∀ rc (k : Nat), k + rc = (6 - c) → WP (d + 1) F_350 165 [.ref 318, .int (nI a), .int (nI c), .long (wyA a), lDead, .long (wyM (wyD (I 319 4) a) c k), lDead, .int (nI (c + k))] [] (K, M, upr L 336 V, R, n, s) Q := by
            intro rc; induction rc with
            | zero =>
              intro k hic 
              have hi2c : k = (6 - c) := by omega
              subst hi2c
              refine wp_iload7 (pc' := 167) rfl rfl ?_
              refine wp_iconst (v := nI 5) (pc' := 168) rfl rfl rfl ?_
              refine wp_icmpgtT rfl (nI_lt (by omega) (by omega)) ?_
              refine wp_pool (v := .long (10000)) (pc' := 192) rfl rfl rfl rfl rfl ?_
              refine wp_lload5 (pc' := 194) rfl rfl ?_
              refine wp_lmul (pc' := 195) rfl rfl ?_
              refine wp_lload3 (pc' := 196) rfl rfl ?_
              refine wp_ldiv (pc' := 197) rfl (wyA_ne a ha) rfl ?_
              refine wp_l2i (pc' := 198) rfl rfl ?_
              refine wp_iret rfl rfl rfl ?_
              rw [hM]
              exact kk V
            | succ rc ihc =>
              intro k hic 
              have hltc : k < (6 - c) := by omega
              refine wp_iload7 (pc' := 167) rfl rfl ?_
              refine wp_iconst (v := nI 5) (pc' := 168) rfl rfl rfl ?_
              refine wp_icmpgtF (pc' := 171) rfl (nI_nlt (by omega) (by omega)) rfl ?_
              refine wp_lload5 (pc' := 173) rfl rfl ?_
              refine wp_aload0 (pc' := 174) rfl rfl ?_
              refine wp_getRF (pc' := 177) rfl rfl (by first | exact TK.k1 hT rfl | exact TK.kk hT rfl | exact TK.r hT rfl | assumption) (by first | exact TK.k1 hT rfl | exact TK.kk hT rfl | exact TK.r hT rfl | assumption) rfl ?_
              refine wp_iload7 (pc' := 179) rfl rfl ?_
              refine wp_lald _ (pc' := 180) rfl (by first | exact TK.k1 hT rfl | exact TK.kk hT rfl | exact TK.r hT rfl | assumption) (by with_reducible rfl) (by omega) (by first | decide | assumption | omega) rfl ?_
              rw [upr_same, hvb0 _ (by omega)]
              refine wp_ladd (pc' := 181) rfl rfl ?_
              refine wp_lstore5 (pc' := 183) rfl (by first | rfl | assumption) rfl ?_
              first | refine wp_iinc7 (w := nI 1) (pc' := 186) rfl rfl rfl (by with_reducible exact nI_add _ _) rfl ?_ | refine wp_iinc7 (w := nI 1) (pc' := 186) rfl rfl rfl rfl rfl ?_
              refine wp_goto rfl ?_
              exact WP.cg (ihc (k + 1) (by omega)) (lC1 (lI1 (by rfl) (lI1 (by rfl) (lL1 (by rfl) (lC1 (lL1 (by rfl) (lC1 (lI1 (by rfl) rfl)))))))) rfl (by rfl)
          exact WP.cg (lp165 ((6 - c) - (0)) (0) (by omega)) (lC1 (lI1 (by rfl) (lI1 (by rfl) (lL1 (by rfl) (lC1 (lL1 (by rfl) (lC1 (lI1 (by rfl) rfl)))))))) rfl (by rfl)
        | succ rb ihb =>
          intro i V v6 hib hvb0 hvb1
          have hltb : i < a := by omega
          refine wp_iload5 (pc' := 77) rfl rfl ?_
          refine wp_iload1 (pc' := 78) rfl rfl ?_
          refine wp_icmpgeF (pc' := 81) rfl (nI_lt (by omega) (by omega)) rfl ?_
          refine wp_iconst (v := nI 5) (pc' := 82) rfl rfl rfl ?_
          refine wp_istore6 (pc' := 84) rfl (by first | rfl | assumption) rfl ?_
          have lp84 : ∀ rc (k : Nat) (V : Nat → Int64), k + rc = 6 → (∀ j, j < 6 → V j = wyR (I 319 4) (wyD (I 319 4) i) k j) → WP (d + 1) F_350 84 [.ref 318, .int (nI a), .int (nI c), .long (wyA i), lDead, .int (nI i), .int (nI 5 - nI k), lDead] [] (K, M, upr L 336 V, R, n, s) Q := by
            intro rc; induction rc with
            | zero =>
              intro k V hic hvc0
              have hi2c : k = 6 := by omega
              subst hi2c
              refine wp_iload6 (pc' := 86) rfl rfl ?_
              refine wp_ifltT rfl (by decide) ?_
              refine wp_lload3 (pc' := 148) rfl rfl ?_
              refine wp_pool (v := .long (100)) (pc' := 151) rfl rfl rfl rfl rfl ?_
              refine wp_lmul (pc' := 152) rfl rfl ?_
              refine wp_lstore3 (pc' := 153) rfl (by first | rfl | assumption) rfl ?_
              first | refine wp_iinc5 (w := nI 1) (pc' := 156) rfl rfl rfl (by with_reducible exact nI_add _ _) rfl ?_ | refine wp_iinc5 (w := nI 1) (pc' := 156) rfl rfl rfl rfl rfl ?_
              refine wp_goto rfl ?_
              exact WP.cg (ihb (i + 1) V _ (by omega) hvc0 (by first | rfl | assumption)) (lC1 (lI1 (by rfl) (lI1 (by rfl) (lL1 (by rfl) (lC1 (lI1 (by rfl) (lC1 (lC1 rfl)))))))) rfl (by rfl)
            | succ rc ihc =>
              intro k V hic hvc0
              have hltc : k < 6 := by omega
              rw [nI_sub (show k ≤ 5 by omega)]
              have hD := d65 k (by omega)
              refine wp_iload6 (pc' := 86) rfl rfl ?_
              refine wp_ifltF (pc' := 89) rfl (nI_pos (by omega)) rfl ?_
              refine wp_aload0 (pc' := 90) rfl rfl ?_
              refine wp_getRF (pc' := 93) rfl rfl (by first | exact TK.k1 hT rfl | exact TK.kk hT rfl | exact TK.r hT rfl | assumption) (by first | exact TK.k1 hT rfl | exact TK.kk hT rfl | exact TK.r hT rfl | assumption) rfl ?_
              refine wp_iload6 (pc' := 95) rfl rfl ?_
              refine wp_aload0 (pc' := 96) rfl rfl ?_
              refine wp_getRF (pc' := 99) rfl rfl (by first | exact TK.k1 hT rfl | exact TK.kk hT rfl | exact TK.r hT rfl | assumption) (by first | exact TK.k1 hT rfl | exact TK.kk hT rfl | exact TK.r hT rfl | assumption) rfl ?_
              refine wp_iload6 (pc' := 101) rfl rfl ?_
              refine wp_lald _ (pc' := 102) rfl (by first | exact TK.k1 hT rfl | exact TK.kk hT rfl | exact TK.r hT rfl | assumption) (by with_reducible rfl) (by omega) (by first | decide | assumption | omega) rfl ?_
              rw [upr_same, hvc0 _ (by omega)]
              refine wp_bipush (v := nI 100) (pc' := 104) rfl rfl rfl ?_
              refine wp_aload0 (pc' := 105) rfl rfl ?_
              refine wp_getRF (pc' := 108) rfl rfl (by first | exact TK.k1 hT rfl | exact TK.kk hT rfl | exact TK.r hT rfl | assumption) (by first | exact TK.k1 hT rfl | exact TK.kk hT rfl | exact TK.r hT rfl | assumption) rfl ?_
              refine wp_iconst (v := nI 4) (pc' := 109) rfl rfl rfl ?_
              refine wp_iald _ (pc' := 110) rfl (by first | exact TK.k1 hT rfl | exact TK.kk hT rfl | exact TK.r hT rfl | assumption) (by with_reducible rfl) (by omega) (by first | decide | assumption | omega) rfl ?_
              rw [hM9]
              first | refine wp_isubN (pc' := 111) rfl (by with_reducible rfl) (by with_reducible rfl) (by omega) rfl ?_ | refine wp_isub (pc' := 111) rfl rfl ?_
              refine wp_i2l (pc' := 112) rfl rfl ?_
              refine wp_lmul (pc' := 113) rfl rfl ?_
              refine wp_iload6 (pc' := 115) rfl rfl ?_
              first | refine wp_ifneB (pc' := 118) rfl rfl ?_ ?_ | refine wp_ifne (pc' := 118) rfl rfl ?_ ?_
              · intro h115
                have hk5 : 1 ≤ 5 - k := Nat.pos_of_ne_zero (fun q => h115 (by rw [q]))
                refine wp_aload0 (pc' := 123) rfl rfl ?_
                refine wp_getRF (pc' := 126) rfl rfl (by first | exact TK.k1 hT rfl | exact TK.kk hT rfl | exact TK.r hT rfl | assumption) (by first | exact TK.k1 hT rfl | exact TK.kk hT rfl | exact TK.r hT rfl | assumption) rfl ?_
                refine wp_iload6 (pc' := 128) rfl rfl ?_
                refine wp_iconst (v := nI 1) (pc' := 129) rfl rfl rfl ?_
                first | refine wp_isubN (pc' := 130) rfl (by with_reducible rfl) (by with_reducible rfl) (by omega) rfl ?_ | refine wp_isub (pc' := 130) rfl rfl ?_
                refine wp_lald _ (pc' := 131) rfl (by first | exact TK.k1 hT rfl | exact TK.kk hT rfl | exact TK.r hT rfl | assumption) (by with_reducible rfl) (by omega) (by first | decide | assumption | omega) rfl ?_
                rw [upr_same, hvc0 _ (by omega)]
                refine wp_aload0 (pc' := 132) rfl rfl ?_
                refine wp_getRF (pc' := 135) rfl rfl (by first | exact TK.k1 hT rfl | exact TK.kk hT rfl | exact TK.r hT rfl | assumption) (by first | exact TK.k1 hT rfl | exact TK.kk hT rfl | exact TK.r hT rfl | assumption) rfl ?_
                refine wp_iconst (v := nI 4) (pc' := 136) rfl rfl rfl ?_
                refine wp_iald _ (pc' := 137) rfl (by first | exact TK.k1 hT rfl | exact TK.kk hT rfl | exact TK.r hT rfl | assumption) (by with_reducible rfl) (by omega) (by first | decide | assumption | omega) rfl ?_
                rw [hM9]
                refine wp_i2l (pc' := 138) rfl rfl ?_
                refine wp_lmul (pc' := 139) rfl rfl ?_
                refine wp_ladd (pc' := 140) rfl rfl ?_
                refine wp_last _ (pc' := 141) rfl (by first | exact TK.k1 hT rfl | exact TK.kk hT rfl | exact TK.r hT rfl | assumption) (by omega) (by with_reducible rfl) (by omega) (by first | decide | assumption | omega) rfl ?_
                first | refine wp_iinc6 (w := (-1)) (pc' := 144) rfl rfl rfl (by with_reducible exact nI_sub1 (by omega)) rfl ?_ | refine wp_iinc6 (w := (-1)) (pc' := 144) rfl rfl rfl rfl rfl ?_
                refine wp_goto rfl ?_
                exact WP.cg (ihc (k + 1) _ (by omega) (wyS_ag (sh := I 319 4) (i := 5 - k) (by omega) hvc0)) (lC1 (lI1 (by first | with_reducible rfl | with_reducible exact hD | (rw [← nI_sub1 hk5]; with_reducible exact hD)) (lI1 (by first | with_reducible rfl | with_reducible exact hD | (rw [← nI_sub1 hk5]; with_reducible exact hD)) (lL1 (by first | with_reducible rfl | with_reducible exact hD | (rw [← nI_sub1 hk5]; with_reducible exact hD)) (lC1 (lI1 (by first | with_reducible rfl | with_reducible exact hD | (rw [← nI_sub1 hk5]; with_reducible exact hD)) (lI1 (by first | with_reducible rfl | with_reducible exact hD | (rw [← nI_sub1 hk5]; with_reducible exact hD)) (lC1 rfl)))))))) rfl (by first | (rw [up2_L, if_pos (show 5 - k = 0 from eq_nI h115 (by omega) (by decide))] <;> rfl) | (rw [up2_L, if_neg (fun q => h115 (by rw [q]))] <;> rfl))
              · intro h115
                refine wp_lconst (v := 0) (pc' := 119) rfl rfl rfl ?_
                refine wp_goto rfl ?_
                refine wp_ladd (pc' := 140) rfl rfl ?_
                refine wp_last _ (pc' := 141) rfl (by first | exact TK.k1 hT rfl | exact TK.kk hT rfl | exact TK.r hT rfl | assumption) (by omega) (by with_reducible rfl) (by omega) (by first | decide | assumption | omega) rfl ?_
                first | refine wp_iinc6 (w := (-1)) (pc' := 144) rfl rfl rfl (by with_reducible exact nI_sub1 (by omega)) rfl ?_ | refine wp_iinc6 (w := (-1)) (pc' := 144) rfl rfl rfl rfl rfl ?_
                refine wp_goto rfl ?_
                exact WP.cg (ihc (k + 1) _ (by omega) (wyS_ag (sh := I 319 4) (i := 5 - k) (by omega) hvc0)) (lC1 (lI1 (by first | with_reducible rfl | with_reducible exact hD | (rw [← nI_sub1 hk5]; with_reducible exact hD)) (lI1 (by first | with_reducible rfl | with_reducible exact hD | (rw [← nI_sub1 hk5]; with_reducible exact hD)) (lL1 (by first | with_reducible rfl | with_reducible exact hD | (rw [← nI_sub1 hk5]; with_reducible exact hD)) (lC1 (lI1 (by first | with_reducible rfl | with_reducible exact hD | (rw [← nI_sub1 hk5]; with_reducible exact hD)) (lI1 (by first | with_reducible rfl | with_reducible exact hD | (rw [← nI_sub1 hk5]; with_reducible exact hD)) (lC1 rfl)))))))) rfl (by first | (rw [up2_L, if_pos (show 5 - k = 0 from eq_nI h115 (by omega) (by decide))] <;> rfl) | (rw [up2_L, if_neg (fun q => h115 (by rw [q]))] <;> rfl))
          exact WP.cg (lp84 (6 - (0)) (0) V (by omega) hvb0) (lC1 (lI1 (by rfl) (lI1 (by rfl) (lL1 (by rfl) (lC1 (lI1 (by rfl) (lI1 (by rfl) (lC1 rfl)))))))) rfl (by rfl)
      exact WP.cg (lp75 (a - (0)) (0) V _ (by omega) hv0 (by first | rfl | assumption)) (lC1 (lI1 (by rfl) (lI1 (by rfl) (lL1 (by rfl) (lC1 (lI1 (by rfl) (lC1 (lC1 rfl)))))))) rfl (by rfl)
    | succ r ih =>
      intro i V hi hv0
      have hlt : i < 6 := by omega
      refine wp_iload5 (pc' := 45) rfl rfl ?_
      refine wp_iconst (v := nI 5) (pc' := 46) rfl rfl rfl ?_
      refine wp_icmpgtF (pc' := 49) rfl (nI_nlt (by omega) (by omega)) rfl ?_
      refine wp_aload0 (pc' := 50) rfl rfl ?_
      refine wp_getRF (pc' := 53) rfl rfl (by first | exact TK.k1 hT rfl | exact TK.kk hT rfl | exact TK.r hT rfl | assumption) (by first | exact TK.k1 hT rfl | exact TK.kk hT rfl | exact TK.r hT rfl | assumption) rfl ?_
      refine wp_iload5 (pc' := 55) rfl rfl ?_
      refine wp_iload5 (pc' := 57) rfl rfl ?_
      first | refine wp_ifneB (pc' := 60) rfl rfl ?_ ?_ | refine wp_ifne (pc' := 60) rfl rfl ?_ ?_
      · intro h57
        refine wp_lconst (v := 0) (pc' := 65) rfl rfl rfl ?_
        refine wp_last _ (pc' := 66) rfl (by first | exact TK.k1 hT rfl | exact TK.kk hT rfl | exact TK.r hT rfl | assumption) (by omega) (by with_reducible rfl) (by omega) (by first | decide | assumption | omega) rfl ?_
        first | refine wp_iinc5 (w := nI 1) (pc' := 69) rfl rfl rfl (by with_reducible exact nI_add _ _) rfl ?_ | refine wp_iinc5 (w := nI 1) (pc' := 69) rfl rfl rfl rfl rfl ?_
        refine wp_goto rfl ?_
        exact WP.cg (ih (i + 1) (up1 V i (wy0 i)) (by omega) (up1_ext hv0)) (lC1 (lI1 (by rfl) (lI1 (by rfl) (lL1 (by rfl) (lC1 (lI1 (by rfl) (lC1 (lC1 rfl)))))))) rfl (by rw [up2_L]; first | (rw [show wy0 i = 1 from if_pos ((nI_eq (by omega) (by decide)).mp h57)]; done) | (rw [show wy0 i = 0 from if_neg (fun q => h57 (by rw [q]))]; done))
      · intro h57
        refine wp_lconst (v := 1) (pc' := 61) rfl rfl rfl ?_
        refine wp_goto rfl ?_
        refine wp_last _ (pc' := 66) rfl (by first | exact TK.k1 hT rfl | exact TK.kk hT rfl | exact TK.r hT rfl | assumption) (by omega) (by with_reducible rfl) (by omega) (by first | decide | assumption | omega) rfl ?_
        first | refine wp_iinc5 (w := nI 1) (pc' := 69) rfl rfl rfl (by with_reducible exact nI_add _ _) rfl ?_ | refine wp_iinc5 (w := nI 1) (pc' := 69) rfl rfl rfl rfl rfl ?_
        refine wp_goto rfl ?_
        exact WP.cg (ih (i + 1) (up1 V i (wy0 i)) (by omega) (up1_ext hv0)) (lC1 (lI1 (by rfl) (lI1 (by rfl) (lL1 (by rfl) (lC1 (lI1 (by rfl) (lC1 (lC1 rfl)))))))) rfl (by rw [up2_L]; first | (rw [show wy0 i = 1 from if_pos ((nI_eq (by omega) (by decide)).mp h57)]; done) | (rw [show wy0 i = 0 from if_neg (fun q => h57 (by rw [q]))]; done))
  exact WP.cg (lp43 (6 - (0)) (0) (L 336) (by omega) (fun j hj => absurd hj (Nat.not_lt_zero j))) (lC1 (lI1 (by rfl) (lI1 (by rfl) (lL1 (by rfl) (lC1 (lI1 (by rfl) (lC1 (lC1 rfl)))))))) rfl (by rw [upr_id])
theorem m_oddsE1 {d : Nat} {K : Nat → Nat × Nat} {I : Nat → Nat → Int32} {L : Nat → Nat → Int64} {R : Nat → Nat → Option Nat} {n s : Nat} {Q : Lo → Lm → Prop} {x y : Int32} (hT : TK K R n) (hx : ¬ (¬ x < nI 0 ∧ ¬ nI 5 < x)) (kk : Q (.inl (some (.int (nI 0)))) (K, up2 I 318 0 (nI 1), L, R, n, s)) : Ok (d + 2) 350 [.ref 318, .int x, .int y] (K, I, L, R, n, s) Q := by
  obtain ⟨-, -, hn⟩ := id hT
  refine Ok.enter (F := F_350) (ls := [.ref 318, .int x, .int y, lDead, lDead, lDead, lDead, lDead]) rfl rfl ?_
  refine wp_aload0 (pc' := 1) rfl rfl ?_
  refine wp_iconst (v := nI 0) (pc' := 2) rfl rfl rfl ?_
  refine wp_putI (pc' := 5) rfl rfl (by first | exact TK.k1 hT rfl | exact TK.kk hT rfl | exact TK.r hT rfl | assumption) (by omega) rfl ?_
  refine wp_aload0 (pc' := 6) rfl rfl ?_
  refine wp_iload1 (pc' := 7) rfl rfl ?_
  refine wp_iconst (v := nI 0) (pc' := 8) rfl rfl rfl ?_
  refine wp_iconst (v := nI 5) (pc' := 9) rfl rfl rfl ?_
  refine wp_callS3 (pc' := 12) rfl rfl rfl rfl rfl rfl ?_
  refine m_in0 hx ?_
  refine Cont.v ?_
  refine wp_ifeqT rfl rfl ?_
  refine wp_iconst (v := nI 1) (pc' := 25) rfl rfl rfl ?_
  refine wp_goto rfl ?_
  refine wp_iconst (v := nI 1) (pc' := 30) rfl rfl rfl ?_
  refine wp_callV3 (pc' := 33) rfl rfl rfl rfl rfl (by first | exact TK.k1 hT rfl | exact TK.kk hT rfl | exact TK.r hT rfl | assumption) rfl rfl ?_
  refine m_tfY hT ?_
  refine Cont.v ?_
  refine wp_ifeqF (pc' := 36) rfl (by decide) rfl ?_
  refine wp_iconst (v := nI 0) (pc' := 37) rfl rfl rfl ?_
  refine wp_iret rfl rfl rfl ?_
  rw [up318]
  exact kk
theorem m_oddsE2 {d : Nat} {K : Nat → Nat × Nat} {I : Nat → Nat → Int32} {L : Nat → Nat → Int64} {R : Nat → Nat → Option Nat} {n s : Nat} {Q : Lo → Lm → Prop} {a : Nat} {y : Int32} (hT : TK K R n) (ha : a ≤ 5) (hx : ¬ (¬ y < nI 0 ∧ ¬ nI 5 < y)) (kk : Q (.inl (some (.int (nI 0)))) (K, up2 I 318 0 (nI 1), L, R, n, s)) : Ok (d + 2) 350 [.ref 318, .int (nI a), .int y] (K, I, L, R, n, s) Q := by
  obtain ⟨-, -, hn⟩ := id hT
  refine Ok.enter (F := F_350) (ls := [.ref 318, .int (nI a), .int y, lDead, lDead, lDead, lDead, lDead]) rfl rfl ?_
  refine wp_aload0 (pc' := 1) rfl rfl ?_
  refine wp_iconst (v := nI 0) (pc' := 2) rfl rfl rfl ?_
  refine wp_putI (pc' := 5) rfl rfl (by first | exact TK.k1 hT rfl | exact TK.kk hT rfl | exact TK.r hT rfl | assumption) (by omega) rfl ?_
  refine wp_aload0 (pc' := 6) rfl rfl ?_
  refine wp_iload1 (pc' := 7) rfl rfl ?_
  refine wp_iconst (v := nI 0) (pc' := 8) rfl rfl rfl ?_
  refine wp_iconst (v := nI 5) (pc' := 9) rfl rfl rfl ?_
  refine wp_callS3 (pc' := 12) rfl rfl rfl rfl rfl rfl ?_
  refine m_in1 (by exact nI_pos (by omega)) (nI_nlt (by omega) (by omega)) ?_
  refine Cont.v ?_
  refine wp_ifeqF (pc' := 15) rfl (by decide) rfl ?_
  refine wp_iload2 (pc' := 16) rfl rfl ?_
  refine wp_iconst (v := nI 0) (pc' := 17) rfl rfl rfl ?_
  refine wp_iconst (v := nI 5) (pc' := 18) rfl rfl rfl ?_
  refine wp_callS3 (pc' := 21) rfl rfl rfl rfl rfl rfl ?_
  refine m_in0 hx ?_
  refine Cont.v ?_
  refine wp_ifneF (pc' := 24) rfl rfl rfl ?_
  refine wp_iconst (v := nI 1) (pc' := 25) rfl rfl rfl ?_
  refine wp_goto rfl ?_
  refine wp_iconst (v := nI 1) (pc' := 30) rfl rfl rfl ?_
  refine wp_callV3 (pc' := 33) rfl rfl rfl rfl rfl (by first | exact TK.k1 hT rfl | exact TK.kk hT rfl | exact TK.r hT rfl | assumption) rfl rfl ?_
  refine m_tfY hT ?_
  refine Cont.v ?_
  refine wp_ifeqF (pc' := 36) rfl (by decide) rfl ?_
  refine wp_iconst (v := nI 0) (pc' := 37) rfl rfl rfl ?_
  refine wp_iret rfl rfl rfl ?_
  rw [up318]
  exact kk
