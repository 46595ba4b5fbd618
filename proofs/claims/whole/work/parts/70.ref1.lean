/-! THE REFERENCE: what is read -/
def drW (w : Nat → Int32) (i : Nat) : Int32 := forN (fun c f => f ||| jshl (w (9 + 6 * c + 2)) (nI c)) (nI 0) i
def Sv (w : Nat → Int32) : Mem := fun k j => match k with
  | 0 => (match j with
    | 10 => w 0
    | 11 => drW w 25
    | 12 => w 3
    | 13 => w 4
    | 14 => w 5
    | 15 => w 6
    | 16 => w 8
    | 17 => w 1
    | _ => nI 0)
  | 1 => if j < 25 then w (9 + 6 * j + 0) else nI 0
  | 2 => if j < 25 then w (9 + 6 * j + 1) else nI 0
  | 3 => if j < 25 then w (9 + 6 * j + 3) else nI 0
  | 4 => if j < 25 then w (9 + 6 * j + 4) else nI 0
  | 5 => if j < 25 then w (9 + 6 * j + 5) else nI 0
  | 6 => if j < 6 then w (159 + 4 * j + 0) else nI 0
  | 7 => if j < 6 then w (159 + 4 * j + 1) else nI 0
  | 8 => if j < 6 then w (159 + 4 * j + 2) else nI 0
  | 9 => if j < 6 then w (159 + 4 * j + 3) else nI 0
  | _ => nI 0
theorem Sv_1 {w : Nat → Int32} {j : Nat} (h : j < 25) : Sv w 1 j = w (9 + 6 * j + 0) := if_pos h
theorem Sv_2 {w : Nat → Int32} {j : Nat} (h : j < 25) : Sv w 2 j = w (9 + 6 * j + 1) := if_pos h
theorem Sv_3 {w : Nat → Int32} {j : Nat} (h : j < 25) : Sv w 3 j = w (9 + 6 * j + 3) := if_pos h
theorem Sv_4 {w : Nat → Int32} {j : Nat} (h : j < 25) : Sv w 4 j = w (9 + 6 * j + 4) := if_pos h
theorem Sv_5 {w : Nat → Int32} {j : Nat} (h : j < 25) : Sv w 5 j = w (9 + 6 * j + 5) := if_pos h
theorem Sv_6 {w : Nat → Int32} {j : Nat} (h : j < 6) : Sv w 6 j = w (159 + 4 * j + 0) := if_pos h
theorem Sv_7 {w : Nat → Int32} {j : Nat} (h : j < 6) : Sv w 7 j = w (159 + 4 * j + 1) := if_pos h
theorem Sv_8 {w : Nat → Int32} {j : Nat} (h : j < 6) : Sv w 8 j = w (159 + 4 * j + 2) := if_pos h
theorem Sv_9 {w : Nat → Int32} {j : Nat} (h : j < 6) : Sv w 9 j = w (159 + 4 * j + 3) := if_pos h
theorem or_n0 {x : Int32} : x ||| nI 0 = x := Int32.or_zero
theorem if_or {p : Prop} [Decidable p] {x y : Int32} : (if p then x ||| y else x) = x ||| (if p then y else nI 0) := by
  by_cases h : p
  · rw [if_pos h, if_pos h]
  · rw [if_neg h, if_neg h, or_n0]
def besB (c : Nat) : Int32 := let a := nI 0
  let b := if 0 < c % 5 then a ||| jshl (nI 1) (nI (c - 1)) else a
  let d := if c % 5 < 4 then b ||| jshl (nI 1) (nI (c + 1)) else b
  let e := if 5 ≤ c then d ||| jshl (nI 1) (nI (c - 5)) else d
  if c < 20 then e ||| jshl (nI 1) (nI (c + 5)) else e
def widN (x a : Int32) (i : Nat) : Int32 := forN (fun c f => f ||| (if hasP x c then besB c &&& a else nI 0)) x i
def widC (x a : Int32) : Int32 := widN x a 25
def pieN (x a : Int32) (i : Nat) : Int32 := forN (fun _ y => widC y a) x i
def pieC (c : Nat) (a : Int32) : Int32 := pieN (jshl (nI 1) (nI c) &&& a) a 25
def alW (w : Nat → Int32) : Int32 := pieC 24 (drW w 25)
/-- the last place from the end at which p holds, that is the first one -/
def fbk (p : Nat → Prop) [∀ c, Decidable (p c)] : Nat → Nat → Int32 → Int32
  | 0, _, x => x
  | r + 1, c, x => fbk p r (c - 1) (if p c then nI c else x)
theorem InR_iff {x : Int32} {k : Nat} (hk : k < 2 ^ 30) : (¬ x < nI 0 ∧ ¬ nI k < x) ↔ InR x (k + 1) := by
  constructor
  · rintro ⟨h1, h2⟩; exact InR_le (by omega) h1 h2
  · rintro ⟨c, hc, rfl⟩; exact ⟨nI_pos (by omega), nI_nlt (by omega) (by omega)⟩
theorem InR_iffH {x : Int32} {H : Nat} (hH : H ≤ 6) : (¬ x < nI 0 ∧ ¬ nI H - nI 1 < x) ↔ InR x H := by
  by_cases h : H = 0
  · subst h
    constructor
    · rintro ⟨h1, h2⟩
      obtain ⟨a, ha, rfl⟩ := nI_of (show ¬ x < 0 from h1)
      exact absurd (m1_lt ha) h2
    · rintro ⟨c, hc, _⟩; omega
  · rw [nI_sub (by omega)]
    have := InR_iff (x := x) (k := H - 1) (by omega)
    rw [show H - 1 + 1 = H by omega] at this
    exact this
theorem b_not {p q : Prop} [Decidable p] [Decidable q] (h : p ↔ q) : (if p then nI 0 else nI 1) = (if ¬ q then nI 1 else nI 0) := by
  by_cases e : p
  · rw [if_pos e, if_neg (fun z => z (h.mp e))]
  · rw [if_neg e, if_pos (fun z => e (h.mpr z))]
noncomputable def dInR (x : Int32) (k : Nat) : Decidable (InR x k) := Classical.propDecidable _
noncomputable def bNI (x : Int32) (k : Nat) : Int32 := @ite _ (InR x k) (Classical.propDecidable _) (nI 0) (nI 1)
theorem bNI_t {x : Int32} {k : Nat} (h : InR x k) : bNI x k = nI 0 := if_pos h
theorem bNI_f {x : Int32} {k : Nat} (h : ¬ InR x k) : bNI x k = nI 1 := if_neg h
def drwM (I : Mem) : Mem := up2 I 319 8 (seedN (I 319 8))
def drvV (x : Int32) : Int32 := jshr x (nI 16) &&& nI 32767
theorem jmax_comm0 {x : Int32} : jmax x (nI 0) = jmax (nI 0) x := by
  unfold jmax
  by_cases h : x < nI 0
  · rw [if_pos h, if_neg (fun q => Int32.lt_irrefl (Int32.lt_trans h q))]
  · rw [if_neg h]
    by_cases g : nI 0 < x
    · rw [if_pos g]
    · rw [if_neg g]; exact Int32.le_antisymm (Int32.not_lt.mp g) (Int32.not_lt.mp h)

theorem m_thrown {d : Nat} {K : Nat → Nat × Nat} {I : Nat → Nat → Int32} {L : Nat → Nat → Int64} {R : Nat → Nat → Option Nat} {n s : Nat} {Q : Lo → Lm → Prop}  (hT : TK K R n) (kk : Q (.inl (some (.int (I 318 0)))) (K, I, L, R, n, s)) : Ok (d + 1) 210 [.ref 318] (K, I, L, R, n, s) Q := by
  obtain ⟨-, -, hn⟩ := id hT
  refine Ok.enter (F := F_210) (ls := [.ref 318]) rfl rfl ?_
  refine wp_aload0 (pc' := 1) rfl rfl ?_
  refine wp_getI (pc' := 4) rfl rfl (by first | exact TK.k1 hT rfl | exact TK.kk hT rfl | exact TK.r hT rfl | assumption) rfl ?_
  refine wp_iret rfl rfl rfl ?_
  exact kk
theorem m_tf0 {d : Nat} {K : Nat → Nat × Nat} {I : Nat → Nat → Int32} {L : Nat → Nat → Int64} {R : Nat → Nat → Option Nat} {n s : Nat} {Q : Lo → Lm → Prop} {p : Prop} [Decidable p] {k : Int32} (hT : TK K R n) (kk0 : ¬ p → Q (.inl (some (.int (if p then nI 1 else nI 0)))) (K, I, L, R, n, s)) (kk : p → Q (.inl (some (.int (if p then nI 1 else nI 0)))) (K, up2 I 318 0 k, L, R, n, s)) : Ok (d + 1) 253 [.ref 318, .int (if p then nI 1 else nI 0), .int k] (K, I, L, R, n, s) Q := by
  obtain ⟨-, -, hn⟩ := id hT
  refine Ok.enter (F := F_253) (ls := [.ref 318, .int (if p then nI 1 else nI 0), .int k]) rfl rfl ?_
  refine wp_iload1 (pc' := 1) rfl rfl ?_
  first | refine wp_ifeqB (pc' := 4) rfl rfl ?_ ?_ | refine wp_ifeq (pc' := 4) rfl rfl ?_ ?_
  · intro h1
    refine wp_iload1 (pc' := 10) rfl rfl ?_
    refine wp_iret rfl rfl (by first | rfl | exact nar_if) ?_
    first | exact kk0 h1 | exact kk h1
  · intro h1
    refine wp_aload0 (pc' := 5) rfl rfl ?_
    refine wp_iload2 (pc' := 6) rfl rfl ?_
    refine wp_putI (pc' := 9) rfl rfl (by first | exact TK.k1 hT rfl | exact TK.kk hT rfl | exact TK.r hT rfl | assumption) (by omega) rfl ?_
    refine wp_iload1 (pc' := 10) rfl rfl ?_
    refine wp_iret rfl rfl (by first | rfl | exact nar_if) ?_
    first | exact kk0 h1 | exact kk h1
theorem m_at {d : Nat} {K : Nat → Nat × Nat} {I : Nat → Nat → Int32} {L : Nat → Nat → Int64} {R : Nat → Nat → Option Nat} {n s : Nat} {Q : Lo → Lm → Prop} {c k : Nat}  (kk : Q (.inl (some (.int (nI (9 + 6 * c + k))))) (K, I, L, R, n, s)) : Ok (d + 1) 212 [.int (nI c), .int (nI k)] (K, I, L, R, n, s) Q := by
  refine Ok.enter (F := F_212) (ls := [.int (nI c), .int (nI k)]) rfl rfl ?_
  refine wp_bipush (v := nI 9) (pc' := 2) rfl rfl rfl ?_
  refine wp_bipush (v := nI 6) (pc' := 4) rfl rfl rfl ?_
  refine wp_iload0 (pc' := 5) rfl rfl ?_
  first | refine wp_imulN (pc' := 6) rfl (by with_reducible rfl) (by with_reducible rfl) rfl ?_ | refine wp_imul (pc' := 6) rfl rfl ?_
  first | refine wp_iaddN (pc' := 7) rfl (by with_reducible rfl) (by with_reducible rfl) rfl ?_ | refine wp_iadd (pc' := 7) rfl rfl ?_
  refine wp_iload1 (pc' := 8) rfl rfl ?_
  first | refine wp_iaddN (pc' := 9) rfl (by with_reducible rfl) (by with_reducible rfl) rfl ?_ | refine wp_iadd (pc' := 9) rfl rfl ?_
  refine wp_iret rfl rfl rfl ?_
  exact kk
theorem m_of {d : Nat} {K : Nat → Nat × Nat} {I : Nat → Nat → Int32} {L : Nat → Nat → Int64} {R : Nat → Nat → Option Nat} {n s : Nat} {Q : Lo → Lm → Prop} {c k : Nat} (hT : TK K R n) (hc : c < 25) (hk : k < 6) (kk : Q (.inl (some (.int (I 319 (9 + 6 * c + k))))) (K, I, L, R, n, s)) : Ok (d + 2) 260 [.ref 318, .int (nI c), .int (nI k)] (K, I, L, R, n, s) Q := by
  obtain ⟨-, -, hn⟩ := id hT
  refine Ok.enter (F := F_260) (ls := [.ref 318, .int (nI c), .int (nI k)]) rfl rfl ?_
  refine wp_aload0 (pc' := 1) rfl rfl ?_
  refine wp_getRF (pc' := 4) rfl rfl (by first | exact TK.k1 hT rfl | exact TK.kk hT rfl | exact TK.r hT rfl | assumption) (by first | exact TK.k1 hT rfl | exact TK.kk hT rfl | exact TK.r hT rfl | assumption) rfl ?_
  refine wp_iload1 (pc' := 5) rfl rfl ?_
  refine wp_iload2 (pc' := 6) rfl rfl ?_
  refine wp_callS2 (pc' := 9) rfl rfl rfl rfl rfl rfl ?_
  refine m_at ?_
  refine Cont.v ?_
  refine wp_iald _ (pc' := 10) rfl (by first | exact TK.k1 hT rfl | exact TK.kk hT rfl | exact TK.r hT rfl | assumption) (by with_reducible rfl) (by omega) (by first | decide | assumption | omega) rfl ?_
  refine wp_iret rfl rfl rfl ?_
  exact kk
theorem m_in {d : Nat} {K : Nat → Nat × Nat} {I : Nat → Nat → Int32} {L : Nat → Nat → Int64} {R : Nat → Nat → Option Nat} {n s : Nat} {Q : Lo → Lm → Prop} {x y z : Int32}  (kk : Q (.inl (some (.int (if ¬ x < y ∧ ¬ z < x then nI 1 else nI 0)))) (K, I, L, R, n, s)) : Ok (d + 1) 257 [.int x, .int y, .int z] (K, I, L, R, n, s) Q := by
  refine Ok.enter (F := F_257) (ls := [.int x, .int y, .int z]) rfl rfl ?_
  refine wp_iload0 (pc' := 1) rfl rfl ?_
  refine wp_iload1 (pc' := 2) rfl rfl ?_
  refine wp_icmplt (pc' := 5) rfl rfl ?_ ?_
  · intro h2
    refine wp_iconst (v := nI 0) (pc' := 15) rfl rfl rfl ?_
    refine wp_iret rfl rfl (by first | rfl | exact nar_if) ?_
    exact Qv kk (by first | rfl | (simp +decide only [*, ↓reduceIte, and_self, and_true, true_and, and_false, false_and, not_true_eq_false, not_false_eq_true]; done) | (simp_all []; done)) rfl
  · intro h2
    refine wp_iload0 (pc' := 6) rfl rfl ?_
    refine wp_iload2 (pc' := 7) rfl rfl ?_
    refine wp_icmpgt (pc' := 10) rfl rfl ?_ ?_
    · intro h7
      refine wp_iconst (v := nI 0) (pc' := 15) rfl rfl rfl ?_
      refine wp_iret rfl rfl (by first | rfl | exact nar_if) ?_
      exact Qv kk (by first | rfl | (simp +decide only [*, ↓reduceIte, and_self, and_true, true_and, and_false, false_and, not_true_eq_false, not_false_eq_true]; done) | (simp_all []; done)) rfl
    · intro h7
      refine wp_iconst (v := nI 1) (pc' := 11) rfl rfl rfl ?_
      refine wp_goto rfl ?_
      refine wp_iret rfl rfl (by first | rfl | exact nar_if) ?_
      exact Qv kk (by first | rfl | (simp +decide only [*, ↓reduceIte, and_self, and_true, true_and, and_false, false_and, not_true_eq_false, not_false_eq_true]; done) | (simp_all []; done)) rfl
theorem m_has {d : Nat} {K : Nat → Nat × Nat} {I : Nat → Nat → Int32} {L : Nat → Nat → Int64} {R : Nat → Nat → Option Nat} {n s : Nat} {Q : Lo → Lm → Prop} {x : Int32} {c : Nat}  (kk : Q (.inl (some (.int (if hasP x c then nI 1 else nI 0)))) (K, I, L, R, n, s)) : Ok (d + 1) 263 [.int x, .int (nI c)] (K, I, L, R, n, s) Q := by
  refine Ok.enter (F := F_263) (ls := [.int x, .int (nI c)]) rfl rfl ?_
  refine wp_iload0 (pc' := 1) rfl rfl ?_
  refine wp_iload1 (pc' := 2) rfl rfl ?_
  refine wp_ishr (pc' := 3) rfl rfl ?_
  refine wp_iconst (v := nI 1) (pc' := 4) rfl rfl rfl ?_
  refine wp_iand (pc' := 5) rfl rfl ?_
  refine wp_iconst (v := nI 1) (pc' := 6) rfl rfl rfl ?_
  refine wp_icmpne (pc' := 9) rfl rfl ?_ ?_
  · intro h6
    refine wp_iconst (v := nI 0) (pc' := 14) rfl rfl rfl ?_
    refine wp_iret rfl rfl (by first | rfl | exact nar_if) ?_
    exact Qv kk (by first | rfl | (simp +decide only [hasP, *, ↓reduceIte, and_self, and_true, true_and, and_false, false_and, not_true_eq_false, not_false_eq_true]; done) | (simp_all [hasP]; done)) rfl
  · intro h6
    refine wp_iconst (v := nI 1) (pc' := 10) rfl rfl rfl ?_
    refine wp_goto rfl ?_
    refine wp_iret rfl rfl (by first | rfl | exact nar_if) ?_
    exact Qv kk (by first | rfl | (simp +decide only [hasP, *, ↓reduceIte, and_self, and_true, true_and, and_false, false_and, not_true_eq_false, not_false_eq_true]; done) | (simp_all [hasP]; done)) rfl
theorem m_hearths {d : Nat} {K : Nat → Nat × Nat} {I : Nat → Nat → Int32} {L : Nat → Nat → Int64} {R : Nat → Nat → Option Nat} {n s : Nat} {Q : Lo → Lm → Prop} {H : Nat} (hT : TK K R n) (hw : I 319 0 = nI H) (kk : Q (.inl (some (.int (nI H)))) (K, I, L, R, n, s)) : Ok (d + 1) 237 [.ref 318] (K, I, L, R, n, s) Q := by
  obtain ⟨-, -, hn⟩ := id hT
  refine Ok.enter (F := F_237) (ls := [.ref 318]) rfl rfl ?_
  refine wp_aload0 (pc' := 1) rfl rfl ?_
  refine wp_getRF (pc' := 4) rfl rfl (by first | exact TK.k1 hT rfl | exact TK.kk hT rfl | exact TK.r hT rfl | assumption) (by first | exact TK.k1 hT rfl | exact TK.kk hT rfl | exact TK.r hT rfl | assumption) rfl ?_
  refine wp_iconst (v := nI 0) (pc' := 5) rfl rfl rfl ?_
  refine wp_iald _ (pc' := 6) rfl (by first | exact TK.k1 hT rfl | exact TK.kk hT rfl | exact TK.r hT rfl | assumption) (by with_reducible rfl) (by omega) (by first | decide | assumption | omega) rfl ?_
  refine wp_iret rfl rfl rfl ?_
  exact Qv kk hw rfl
theorem m_hearthAt {d : Nat} {K : Nat → Nat × Nat} {I : Nat → Nat → Int32} {L : Nat → Nat → Int64} {R : Nat → Nat → Option Nat} {n s : Nat} {Q : Lo → Lm → Prop} {h k : Nat}  (kk : Q (.inl (some (.int (nI (159 + 4 * h + k))))) (K, I, L, R, n, s)) : Ok (d + 1) 239 [.int (nI h), .int (nI k)] (K, I, L, R, n, s) Q := by
  refine Ok.enter (F := F_239) (ls := [.int (nI h), .int (nI k)]) rfl rfl ?_
  refine wp_sipush (v := nI 159) (pc' := 3) rfl rfl rfl ?_
  refine wp_iconst (v := nI 4) (pc' := 4) rfl rfl rfl ?_
  refine wp_iload0 (pc' := 5) rfl rfl ?_
  first | refine wp_imulN (pc' := 6) rfl (by with_reducible rfl) (by with_reducible rfl) rfl ?_ | refine wp_imul (pc' := 6) rfl rfl ?_
  first | refine wp_iaddN (pc' := 7) rfl (by with_reducible rfl) (by with_reducible rfl) rfl ?_ | refine wp_iadd (pc' := 7) rfl rfl ?_
  refine wp_iload1 (pc' := 8) rfl rfl ?_
  first | refine wp_iaddN (pc' := 9) rfl (by with_reducible rfl) (by with_reducible rfl) rfl ?_ | refine wp_iadd (pc' := 9) rfl rfl ?_
  refine wp_iret rfl rfl rfl ?_
  exact kk
theorem m_ofH {d : Nat} {K : Nat → Nat × Nat} {I : Nat → Nat → Int32} {L : Nat → Nat → Int64} {R : Nat → Nat → Option Nat} {n s : Nat} {Q : Lo → Lm → Prop} {h k : Nat} (hT : TK K R n) (hh : h < 6) (hk : k < 4) (kk : Q (.inl (some (.int (I 319 (159 + 4 * h + k))))) (K, I, L, R, n, s)) : Ok (d + 2) 280 [.ref 318, .int (nI h), .int (nI k)] (K, I, L, R, n, s) Q := by
  obtain ⟨-, -, hn⟩ := id hT
  refine Ok.enter (F := F_280) (ls := [.ref 318, .int (nI h), .int (nI k)]) rfl rfl ?_
  refine wp_aload0 (pc' := 1) rfl rfl ?_
  refine wp_getRF (pc' := 4) rfl rfl (by first | exact TK.k1 hT rfl | exact TK.kk hT rfl | exact TK.r hT rfl | assumption) (by first | exact TK.k1 hT rfl | exact TK.kk hT rfl | exact TK.r hT rfl | assumption) rfl ?_
  refine wp_iload1 (pc' := 5) rfl rfl ?_
  refine wp_iload2 (pc' := 6) rfl rfl ?_
  refine wp_callS2 (pc' := 9) rfl rfl rfl rfl rfl rfl ?_
  refine m_hearthAt ?_
  refine Cont.v ?_
  refine wp_iald _ (pc' := 10) rfl (by first | exact TK.k1 hT rfl | exact TK.kk hT rfl | exact TK.r hT rfl | assumption) (by with_reducible rfl) (by omega) (by first | decide | assumption | omega) rfl ?_
  refine wp_iret rfl rfl rfl ?_
  exact kk
theorem m_noCell {d : Nat} {K : Nat → Nat × Nat} {I : Nat → Nat → Int32} {L : Nat → Nat → Int64} {R : Nat → Nat → Option Nat} {n s : Nat} {Q : Lo → Lm → Prop} {x : Int32}  (kk : Q (.inl (some (.int (bNI x 25)))) (K, I, L, R, n, s)) : Ok (d + 2) 256 [.int x] (K, I, L, R, n, s) Q := by
  refine Ok.enter (F := F_256) (ls := [.int x]) rfl rfl ?_
  refine wp_iload0 (pc' := 1) rfl rfl ?_
  refine wp_iconst (v := nI 0) (pc' := 2) rfl rfl rfl ?_
  refine wp_bipush (v := nI 24) (pc' := 4) rfl rfl rfl ?_
  refine wp_callS3 (pc' := 7) rfl rfl rfl rfl rfl rfl ?_
  refine m_in ?_
  refine Cont.v ?_
  first | refine wp_ifneB (pc' := 10) rfl rfl ?_ ?_ | refine wp_ifne (pc' := 10) rfl rfl ?_ ?_
  · intro h7
    refine wp_iconst (v := nI 0) (pc' := 15) rfl rfl rfl ?_
    refine wp_iret rfl rfl (by first | rfl | exact nar_if) ?_
    exact Qv kk (by first | rw [bNI_t ((InR_iff (k := 24) (by decide)).mp h7)] | rw [bNI_f (fun q => h7 ((InR_iff (k := 24) (by decide)).mpr q))]) rfl
  · intro h7
    refine wp_iconst (v := nI 1) (pc' := 11) rfl rfl rfl ?_
    refine wp_goto rfl ?_
    refine wp_iret rfl rfl (by first | rfl | exact nar_if) ?_
    exact Qv kk (by first | rw [bNI_t ((InR_iff (k := 24) (by decide)).mp h7)] | rw [bNI_f (fun q => h7 ((InR_iff (k := 24) (by decide)).mpr q))]) rfl
theorem m_noDays {d : Nat} {K : Nat → Nat × Nat} {I : Nat → Nat → Int32} {L : Nat → Nat → Int64} {R : Nat → Nat → Option Nat} {n s : Nat} {Q : Lo → Lm → Prop} {x : Int32}  (kk : Q (.inl (some (.int (bNI x 61)))) (K, I, L, R, n, s)) : Ok (d + 2) 360 [.int x] (K, I, L, R, n, s) Q := by
  refine Ok.enter (F := F_360) (ls := [.int x]) rfl rfl ?_
  refine wp_iload0 (pc' := 1) rfl rfl ?_
  refine wp_iconst (v := nI 0) (pc' := 2) rfl rfl rfl ?_
  refine wp_bipush (v := nI 60) (pc' := 4) rfl rfl rfl ?_
  refine wp_callS3 (pc' := 7) rfl rfl rfl rfl rfl rfl ?_
  refine m_in ?_
  refine Cont.v ?_
  first | refine wp_ifneB (pc' := 10) rfl rfl ?_ ?_ | refine wp_ifne (pc' := 10) rfl rfl ?_ ?_
  · intro h7
    refine wp_iconst (v := nI 0) (pc' := 15) rfl rfl rfl ?_
    refine wp_iret rfl rfl (by first | rfl | exact nar_if) ?_
    exact Qv kk (by first | rw [bNI_t ((InR_iff (k := 60) (by decide)).mp h7)] | rw [bNI_f (fun q => h7 ((InR_iff (k := 60) (by decide)).mpr q))]) rfl
  · intro h7
    refine wp_iconst (v := nI 1) (pc' := 11) rfl rfl rfl ?_
    refine wp_goto rfl ?_
    refine wp_iret rfl rfl (by first | rfl | exact nar_if) ?_
    exact Qv kk (by first | rw [bNI_t ((InR_iff (k := 60) (by decide)).mp h7)] | rw [bNI_f (fun q => h7 ((InR_iff (k := 60) (by decide)).mpr q))]) rfl
theorem m_noHearth {d : Nat} {K : Nat → Nat × Nat} {I : Nat → Nat → Int32} {L : Nat → Nat → Int64} {R : Nat → Nat → Option Nat} {n s : Nat} {Q : Lo → Lm → Prop} {x : Int32} {H : Nat} (hT : TK K R n) (hw : I 319 0 = nI H) (hH6 : H ≤ 6) (kk : Q (.inl (some (.int (bNI x H)))) (K, I, L, R, n, s)) : Ok (d + 2) 287 [.ref 318, .int x] (K, I, L, R, n, s) Q := by
  obtain ⟨-, -, hn⟩ := id hT
  refine Ok.enter (F := F_287) (ls := [.ref 318, .int x]) rfl rfl ?_
  refine wp_iload1 (pc' := 1) rfl rfl ?_
  refine wp_iconst (v := nI 0) (pc' := 2) rfl rfl rfl ?_
  refine wp_aload0 (pc' := 3) rfl rfl ?_
  refine wp_callV1 (pc' := 6) rfl rfl rfl rfl rfl (by first | exact TK.k1 hT rfl | exact TK.kk hT rfl | exact TK.r hT rfl | assumption) rfl rfl ?_
  refine m_hearths hT hw ?_
  refine Cont.v ?_
  refine wp_iconst (v := nI 1) (pc' := 7) rfl rfl rfl ?_
  refine wp_isub (pc' := 8) rfl rfl ?_
  refine wp_callS3 (pc' := 11) rfl rfl rfl rfl rfl rfl ?_
  refine m_in ?_
  refine Cont.v ?_
  first | refine wp_ifneB (pc' := 14) rfl rfl ?_ ?_ | refine wp_ifne (pc' := 14) rfl rfl ?_ ?_
  · intro h11
    refine wp_iconst (v := nI 0) (pc' := 19) rfl rfl rfl ?_
    refine wp_iret rfl rfl (by first | rfl | exact nar_if) ?_
    exact Qv kk (by first | rw [bNI_t ((InR_iffH hH6).mp h11)] | rw [bNI_f (fun q => h11 ((InR_iffH hH6).mpr q))]) rfl
  · intro h11
    refine wp_iconst (v := nI 1) (pc' := 15) rfl rfl rfl ?_
    refine wp_goto rfl ?_
    refine wp_iret rfl rfl (by first | rfl | exact nar_if) ?_
    exact Qv kk (by first | rw [bNI_t ((InR_iffH hH6).mp h11)] | rw [bNI_f (fun q => h11 ((InR_iffH hH6).mpr q))]) rfl
theorem m_drawn {d : Nat} {K : Nat → Nat × Nat} {I : Nat → Nat → Int32} {L : Nat → Nat → Int64} {R : Nat → Nat → Option Nat} {n s : Nat} {Q : Lo → Lm → Prop} {k : Int32} (hT : TK K R n) (hk : ¬ k = 0) (kk : Q (.inl (some (.int (jrem (drvV (seedN (I 319 8))) k)))) (K, drwM I, L, R, n, s)) : Ok (d + 1) 277 [.ref 318, .int k] (K, I, L, R, n, s) Q := by
  obtain ⟨-, -, hn⟩ := id hT
  refine Ok.enter (F := F_277) (ls := [.ref 318, .int k]) rfl rfl ?_
  refine wp_aload0 (pc' := 1) rfl rfl ?_
  refine wp_getRF (pc' := 4) rfl rfl (by first | exact TK.k1 hT rfl | exact TK.kk hT rfl | exact TK.r hT rfl | assumption) (by first | exact TK.k1 hT rfl | exact TK.kk hT rfl | exact TK.r hT rfl | assumption) rfl ?_
  refine wp_bipush (v := nI 8) (pc' := 6) rfl rfl rfl ?_
  refine wp_pool (v := .int (nI 1103515245)) (pc' := 8) rfl rfl rfl rfl rfl ?_
  refine wp_aload0 (pc' := 9) rfl rfl ?_
  refine wp_getRF (pc' := 12) rfl rfl (by first | exact TK.k1 hT rfl | exact TK.kk hT rfl | exact TK.r hT rfl | assumption) (by first | exact TK.k1 hT rfl | exact TK.kk hT rfl | exact TK.r hT rfl | assumption) rfl ?_
  refine wp_bipush (v := nI 8) (pc' := 14) rfl rfl rfl ?_
  refine wp_iald _ (pc' := 15) rfl (by first | exact TK.k1 hT rfl | exact TK.kk hT rfl | exact TK.r hT rfl | assumption) (by with_reducible rfl) (by omega) (by first | decide | assumption | omega) rfl ?_
  first | refine wp_imulN (pc' := 16) rfl (by with_reducible rfl) (by with_reducible rfl) rfl ?_ | refine wp_imul (pc' := 16) rfl rfl ?_
  refine wp_sipush (v := nI 12345) (pc' := 19) rfl rfl rfl ?_
  first | refine wp_iaddN (pc' := 20) rfl (by with_reducible rfl) (by with_reducible rfl) rfl ?_ | refine wp_iadd (pc' := 20) rfl rfl ?_
  refine wp_iast _ (pc' := 21) rfl (by first | exact TK.k1 hT rfl | exact TK.kk hT rfl | exact TK.r hT rfl | assumption) (by omega) (by with_reducible rfl) (by omega) (by first | decide | assumption | omega) rfl ?_
  refine wp_aload0 (pc' := 22) rfl rfl ?_
  refine wp_getRF (pc' := 25) rfl rfl (by first | exact TK.k1 hT rfl | exact TK.kk hT rfl | exact TK.r hT rfl | assumption) (by first | exact TK.k1 hT rfl | exact TK.kk hT rfl | exact TK.r hT rfl | assumption) rfl ?_
  refine wp_bipush (v := nI 8) (pc' := 27) rfl rfl rfl ?_
  refine wp_iald _ (pc' := 28) rfl (by first | exact TK.k1 hT rfl | exact TK.kk hT rfl | exact TK.r hT rfl | assumption) (by with_reducible rfl) (by omega) (by first | decide | assumption | omega) rfl ?_
  rw [up2_hit]
  refine wp_bipush (v := nI 16) (pc' := 30) rfl rfl rfl ?_
  refine wp_ishr (pc' := 31) rfl rfl ?_
  refine wp_sipush (v := nI 32767) (pc' := 34) rfl rfl rfl ?_
  refine wp_iand (pc' := 35) rfl rfl ?_
  refine wp_iload1 (pc' := 36) rfl rfl ?_
  first | refine wp_iremN (pc' := 37) rfl (by with_reducible rfl) (by with_reducible rfl) (by omega) (by omega) (by omega) rfl ?_ | refine wp_irem (pc' := 37) rfl hk rfl ?_
  refine wp_iret rfl rfl rfl ?_
  exact kk
theorem m_beside {d : Nat} {K : Nat → Nat × Nat} {I : Nat → Nat → Int32} {L : Nat → Nat → Int64} {R : Nat → Nat → Option Nat} {n s : Nat} {Q : Lo → Lm → Prop} {c : Nat} (hc : c < 25) (kk : Q (.inl (some (.int (besB c)))) (K, I, L, R, n, s)) : Ok (d + 1) 264 [.int (nI c)] (K, I, L, R, n, s) Q := by
  refine Ok.enter (F := F_264) (ls := [.int (nI c), lDead]) rfl rfl ?_
  refine wp_iconst (v := nI 0) (pc' := 1) rfl rfl rfl ?_
  refine wp_istore1 (pc' := 2) rfl (by first | rfl | assumption) rfl ?_
  refine wp_iload0 (pc' := 3) rfl rfl ?_
  refine wp_iconst (v := nI 5) (pc' := 4) rfl rfl rfl ?_
  first | refine wp_iremN (pc' := 5) rfl (by with_reducible rfl) (by with_reducible rfl) (by omega) (by omega) (by omega) rfl ?_ | refine wp_irem (pc' := 5) rfl (by decide) rfl ?_
  refine wp_ifle (pc' := 8) rfl rfl ?_ ?_
  · intro h5
    refine wp_iload0 (pc' := 17) rfl rfl ?_
    refine wp_iconst (v := nI 5) (pc' := 18) rfl rfl rfl ?_
    first | refine wp_iremN (pc' := 19) rfl (by with_reducible rfl) (by with_reducible rfl) (by omega) (by omega) (by omega) rfl ?_ | refine wp_irem (pc' := 19) rfl (by decide) rfl ?_
    refine wp_iconst (v := nI 4) (pc' := 20) rfl rfl rfl ?_
    refine wp_icmpge (pc' := 23) rfl rfl ?_ ?_
    · intro h20
      refine wp_iload0 (pc' := 32) rfl rfl ?_
      refine wp_iconst (v := nI 5) (pc' := 33) rfl rfl rfl ?_
      refine wp_icmplt (pc' := 36) rfl rfl ?_ ?_
      · intro h33
        refine wp_iload0 (pc' := 45) rfl rfl ?_
        refine wp_bipush (v := nI 20) (pc' := 47) rfl rfl rfl ?_
        refine wp_icmpge (pc' := 50) rfl rfl ?_ ?_
        · intro h47
          refine wp_iload1 (pc' := 59) rfl rfl ?_
          refine wp_iret rfl rfl rfl ?_
          exact Qv kk (by
            unfold besB; dsimp only
            first | rw [if_pos (lt_nI h5 (by decide) (by omega))] | rw [if_neg (fun q => h5 (nI_lt q (by omega)))]
            first | rw [if_pos (lt_nI h20 (by omega) (by decide))] | rw [if_neg (fun q => h20 (nI_lt q (by decide)))]
            first | rw [if_pos (ge_nI h33 (by decide))] | rw [if_neg (fun q => absurd q (Nat.not_le_of_gt (lt_nI h33 (by omega) (by decide))))]
            first | rw [if_pos (lt_nI h47 (by omega) (by decide))] | rw [if_neg (fun q => h47 (nI_lt q (by decide)))]) rfl
        · intro h47
          refine wp_iload1 (pc' := 51) rfl rfl ?_
          refine wp_iconst (v := nI 1) (pc' := 52) rfl rfl rfl ?_
          refine wp_iload0 (pc' := 53) rfl rfl ?_
          refine wp_iconst (v := nI 5) (pc' := 54) rfl rfl rfl ?_
          first | refine wp_iaddN (pc' := 55) rfl (by with_reducible rfl) (by with_reducible rfl) rfl ?_ | refine wp_iadd (pc' := 55) rfl rfl ?_
          refine wp_ishl (pc' := 56) rfl rfl ?_
          refine wp_ior (pc' := 57) rfl rfl ?_
          refine wp_istore1 (pc' := 58) rfl (by first | rfl | assumption) rfl ?_
          refine wp_iload1 (pc' := 59) rfl rfl ?_
          refine wp_iret rfl rfl rfl ?_
          exact Qv kk (by
            unfold besB; dsimp only
            first | rw [if_pos (lt_nI h5 (by decide) (by omega))] | rw [if_neg (fun q => h5 (nI_lt q (by omega)))]
            first | rw [if_pos (lt_nI h20 (by omega) (by decide))] | rw [if_neg (fun q => h20 (nI_lt q (by decide)))]
            first | rw [if_pos (ge_nI h33 (by decide))] | rw [if_neg (fun q => absurd q (Nat.not_le_of_gt (lt_nI h33 (by omega) (by decide))))]
            first | rw [if_pos (lt_nI h47 (by omega) (by decide))] | rw [if_neg (fun q => h47 (nI_lt q (by decide)))]) rfl
      · intro h33
        have a3 : 5 ≤ c := ge_nI h33 (by decide)
        refine wp_iload1 (pc' := 37) rfl rfl ?_
        refine wp_iconst (v := nI 1) (pc' := 38) rfl rfl rfl ?_
        refine wp_iload0 (pc' := 39) rfl rfl ?_
        refine wp_iconst (v := nI 5) (pc' := 40) rfl rfl rfl ?_
        first | refine wp_isubN (pc' := 41) rfl (by with_reducible rfl) (by with_reducible rfl) (by omega) rfl ?_ | refine wp_isub (pc' := 41) rfl rfl ?_
        refine wp_ishl (pc' := 42) rfl rfl ?_
        refine wp_ior (pc' := 43) rfl rfl ?_
        refine wp_istore1 (pc' := 44) rfl (by first | rfl | assumption) rfl ?_
        refine wp_iload0 (pc' := 45) rfl rfl ?_
        refine wp_bipush (v := nI 20) (pc' := 47) rfl rfl rfl ?_
        refine wp_icmpge (pc' := 50) rfl rfl ?_ ?_
        · intro h47
          refine wp_iload1 (pc' := 59) rfl rfl ?_
          refine wp_iret rfl rfl rfl ?_
          exact Qv kk (by
            unfold besB; dsimp only
            first | rw [if_pos (lt_nI h5 (by decide) (by omega))] | rw [if_neg (fun q => h5 (nI_lt q (by omega)))]
            first | rw [if_pos (lt_nI h20 (by omega) (by decide))] | rw [if_neg (fun q => h20 (nI_lt q (by decide)))]
            first | rw [if_pos (ge_nI h33 (by decide))] | rw [if_neg (fun q => absurd q (Nat.not_le_of_gt (lt_nI h33 (by omega) (by decide))))]
            first | rw [if_pos (lt_nI h47 (by omega) (by decide))] | rw [if_neg (fun q => h47 (nI_lt q (by decide)))]) rfl
        · intro h47
          refine wp_iload1 (pc' := 51) rfl rfl ?_
          refine wp_iconst (v := nI 1) (pc' := 52) rfl rfl rfl ?_
          refine wp_iload0 (pc' := 53) rfl rfl ?_
          refine wp_iconst (v := nI 5) (pc' := 54) rfl rfl rfl ?_
          first | refine wp_iaddN (pc' := 55) rfl (by with_reducible rfl) (by with_reducible rfl) rfl ?_ | refine wp_iadd (pc' := 55) rfl rfl ?_
          refine wp_ishl (pc' := 56) rfl rfl ?_
          refine wp_ior (pc' := 57) rfl rfl ?_
          refine wp_istore1 (pc' := 58) rfl (by first | rfl | assumption) rfl ?_
          refine wp_iload1 (pc' := 59) rfl rfl ?_
          refine wp_iret rfl rfl rfl ?_
          exact Qv kk (by
            unfold besB; dsimp only
            first | rw [if_pos (lt_nI h5 (by decide) (by omega))] | rw [if_neg (fun q => h5 (nI_lt q (by omega)))]
            first | rw [if_pos (lt_nI h20 (by omega) (by decide))] | rw [if_neg (fun q => h20 (nI_lt q (by decide)))]
            first | rw [if_pos (ge_nI h33 (by decide))] | rw [if_neg (fun q => absurd q (Nat.not_le_of_gt (lt_nI h33 (by omega) (by decide))))]
            first | rw [if_pos (lt_nI h47 (by omega) (by decide))] | rw [if_neg (fun q => h47 (nI_lt q (by decide)))]) rfl
    · intro h20
      refine wp_iload1 (pc' := 24) rfl rfl ?_
      refine wp_iconst (v := nI 1) (pc' := 25) rfl rfl rfl ?_
      refine wp_iload0 (pc' := 26) rfl rfl ?_
      refine wp_iconst (v := nI 1) (pc' := 27) rfl rfl rfl ?_
      first | refine wp_iaddN (pc' := 28) rfl (by with_reducible rfl) (by with_reducible rfl) rfl ?_ | refine wp_iadd (pc' := 28) rfl rfl ?_
      refine wp_ishl (pc' := 29) rfl rfl ?_
      refine wp_ior (pc' := 30) rfl rfl ?_
      refine wp_istore1 (pc' := 31) rfl (by first | rfl | assumption) rfl ?_
      refine wp_iload0 (pc' := 32) rfl rfl ?_
      refine wp_iconst (v := nI 5) (pc' := 33) rfl rfl rfl ?_
      refine wp_icmplt (pc' := 36) rfl rfl ?_ ?_
      · intro h33
        refine wp_iload0 (pc' := 45) rfl rfl ?_
        refine wp_bipush (v := nI 20) (pc' := 47) rfl rfl rfl ?_
        refine wp_icmpge (pc' := 50) rfl rfl ?_ ?_
        · intro h47
          refine wp_iload1 (pc' := 59) rfl rfl ?_
          refine wp_iret rfl rfl rfl ?_
          exact Qv kk (by
            unfold besB; dsimp only
            first | rw [if_pos (lt_nI h5 (by decide) (by omega))] | rw [if_neg (fun q => h5 (nI_lt q (by omega)))]
            first | rw [if_pos (lt_nI h20 (by omega) (by decide))] | rw [if_neg (fun q => h20 (nI_lt q (by decide)))]
            first | rw [if_pos (ge_nI h33 (by decide))] | rw [if_neg (fun q => absurd q (Nat.not_le_of_gt (lt_nI h33 (by omega) (by decide))))]
            first | rw [if_pos (lt_nI h47 (by omega) (by decide))] | rw [if_neg (fun q => h47 (nI_lt q (by decide)))]) rfl
        · intro h47
          refine wp_iload1 (pc' := 51) rfl rfl ?_
          refine wp_iconst (v := nI 1) (pc' := 52) rfl rfl rfl ?_
          refine wp_iload0 (pc' := 53) rfl rfl ?_
          refine wp_iconst (v := nI 5) (pc' := 54) rfl rfl rfl ?_
          first | refine wp_iaddN (pc' := 55) rfl (by with_reducible rfl) (by with_reducible rfl) rfl ?_ | refine wp_iadd (pc' := 55) rfl rfl ?_
          refine wp_ishl (pc' := 56) rfl rfl ?_
          refine wp_ior (pc' := 57) rfl rfl ?_
          refine wp_istore1 (pc' := 58) rfl (by first | rfl | assumption) rfl ?_
          refine wp_iload1 (pc' := 59) rfl rfl ?_
          refine wp_iret rfl rfl rfl ?_
          exact Qv kk (by
            unfold besB; dsimp only
            first | rw [if_pos (lt_nI h5 (by decide) (by omega))] | rw [if_neg (fun q => h5 (nI_lt q (by omega)))]
            first | rw [if_pos (lt_nI h20 (by omega) (by decide))] | rw [if_neg (fun q => h20 (nI_lt q (by decide)))]
            first | rw [if_pos (ge_nI h33 (by decide))] | rw [if_neg (fun q => absurd q (Nat.not_le_of_gt (lt_nI h33 (by omega) (by decide))))]
            first | rw [if_pos (lt_nI h47 (by omega) (by decide))] | rw [if_neg (fun q => h47 (nI_lt q (by decide)))]) rfl
      · intro h33
        have a3 : 5 ≤ c := ge_nI h33 (by decide)
        refine wp_iload1 (pc' := 37) rfl rfl ?_
        refine wp_iconst (v := nI 1) (pc' := 38) rfl rfl rfl ?_
        refine wp_iload0 (pc' := 39) rfl rfl ?_
        refine wp_iconst (v := nI 5) (pc' := 40) rfl rfl rfl ?_
        first | refine wp_isubN (pc' := 41) rfl (by with_reducible rfl) (by with_reducible rfl) (by omega) rfl ?_ | refine wp_isub (pc' := 41) rfl rfl ?_
        refine wp_ishl (pc' := 42) rfl rfl ?_
        refine wp_ior (pc' := 43) rfl rfl ?_
        refine wp_istore1 (pc' := 44) rfl (by first | rfl | assumption) rfl ?_
        refine wp_iload0 (pc' := 45) rfl rfl ?_
        refine wp_bipush (v := nI 20) (pc' := 47) rfl rfl rfl ?_
        refine wp_icmpge (pc' := 50) rfl rfl ?_ ?_
        · intro h47
          refine wp_iload1 (pc' := 59) rfl rfl ?_
          refine wp_iret rfl rfl rfl ?_
          exact Qv kk (by
            unfold besB; dsimp only
            first | rw [if_pos (lt_nI h5 (by decide) (by omega))] | rw [if_neg (fun q => h5 (nI_lt q (by omega)))]
            first | rw [if_pos (lt_nI h20 (by omega) (by decide))] | rw [if_neg (fun q => h20 (nI_lt q (by decide)))]
            first | rw [if_pos (ge_nI h33 (by decide))] | rw [if_neg (fun q => absurd q (Nat.not_le_of_gt (lt_nI h33 (by omega) (by decide))))]
            first | rw [if_pos (lt_nI h47 (by omega) (by decide))] | rw [if_neg (fun q => h47 (nI_lt q (by decide)))]) rfl
        · intro h47
          refine wp_iload1 (pc' := 51) rfl rfl ?_
          refine wp_iconst (v := nI 1) (pc' := 52) rfl rfl rfl ?_
          refine wp_iload0 (pc' := 53) rfl rfl ?_
          refine wp_iconst (v := nI 5) (pc' := 54) rfl rfl rfl ?_
          first | refine wp_iaddN (pc' := 55) rfl (by with_reducible rfl) (by with_reducible rfl) rfl ?_ | refine wp_iadd (pc' := 55) rfl rfl ?_
          refine wp_ishl (pc' := 56) rfl rfl ?_
          refine wp_ior (pc' := 57) rfl rfl ?_
          refine wp_istore1 (pc' := 58) rfl (by first | rfl | assumption) rfl ?_
          refine wp_iload1 (pc' := 59) rfl rfl ?_
          refine wp_iret rfl rfl rfl ?_
          exact Qv kk (by
            unfold besB; dsimp only
            first | rw [if_pos (lt_nI h5 (by decide) (by omega))] | rw [if_neg (fun q => h5 (nI_lt q (by omega)))]
            first | rw [if_pos (lt_nI h20 (by omega) (by decide))] | rw [if_neg (fun q => h20 (nI_lt q (by decide)))]
            first | rw [if_pos (ge_nI h33 (by decide))] | rw [if_neg (fun q => absurd q (Nat.not_le_of_gt (lt_nI h33 (by omega) (by decide))))]
            first | rw [if_pos (lt_nI h47 (by omega) (by decide))] | rw [if_neg (fun q => h47 (nI_lt q (by decide)))]) rfl
  · intro h5
    have a1 : 0 < c % 5 := lt_nI h5 (by decide) (by omega)
    refine wp_iload1 (pc' := 9) rfl rfl ?_
    refine wp_iconst (v := nI 1) (pc' := 10) rfl rfl rfl ?_
    refine wp_iload0 (pc' := 11) rfl rfl ?_
    refine wp_iconst (v := nI 1) (pc' := 12) rfl rfl rfl ?_
    first | refine wp_isubN (pc' := 13) rfl (by with_reducible rfl) (by with_reducible rfl) (by omega) rfl ?_ | refine wp_isub (pc' := 13) rfl rfl ?_
    refine wp_ishl (pc' := 14) rfl rfl ?_
    refine wp_ior (pc' := 15) rfl rfl ?_
    refine wp_istore1 (pc' := 16) rfl (by first | rfl | assumption) rfl ?_
    refine wp_iload0 (pc' := 17) rfl rfl ?_
    refine wp_iconst (v := nI 5) (pc' := 18) rfl rfl rfl ?_
    first | refine wp_iremN (pc' := 19) rfl (by with_reducible rfl) (by with_reducible rfl) (by omega) (by omega) (by omega) rfl ?_ | refine wp_irem (pc' := 19) rfl (by decide) rfl ?_
    refine wp_iconst (v := nI 4) (pc' := 20) rfl rfl rfl ?_
    refine wp_icmpge (pc' := 23) rfl rfl ?_ ?_
    · intro h20
      refine wp_iload0 (pc' := 32) rfl rfl ?_
      refine wp_iconst (v := nI 5) (pc' := 33) rfl rfl rfl ?_
      refine wp_icmplt (pc' := 36) rfl rfl ?_ ?_
      · intro h33
        refine wp_iload0 (pc' := 45) rfl rfl ?_
        refine wp_bipush (v := nI 20) (pc' := 47) rfl rfl rfl ?_
        refine wp_icmpge (pc' := 50) rfl rfl ?_ ?_
        · intro h47
          refine wp_iload1 (pc' := 59) rfl rfl ?_
          refine wp_iret rfl rfl rfl ?_
          exact Qv kk (by
            unfold besB; dsimp only
            first | rw [if_pos (lt_nI h5 (by decide) (by omega))] | rw [if_neg (fun q => h5 (nI_lt q (by omega)))]
            first | rw [if_pos (lt_nI h20 (by omega) (by decide))] | rw [if_neg (fun q => h20 (nI_lt q (by decide)))]
            first | rw [if_pos (ge_nI h33 (by decide))] | rw [if_neg (fun q => absurd q (Nat.not_le_of_gt (lt_nI h33 (by omega) (by decide))))]
            first | rw [if_pos (lt_nI h47 (by omega) (by decide))] | rw [if_neg (fun q => h47 (nI_lt q (by decide)))]) rfl
        · intro h47
          refine wp_iload1 (pc' := 51) rfl rfl ?_
          refine wp_iconst (v := nI 1) (pc' := 52) rfl rfl rfl ?_
          refine wp_iload0 (pc' := 53) rfl rfl ?_
          refine wp_iconst (v := nI 5) (pc' := 54) rfl rfl rfl ?_
          first | refine wp_iaddN (pc' := 55) rfl (by with_reducible rfl) (by with_reducible rfl) rfl ?_ | refine wp_iadd (pc' := 55) rfl rfl ?_
          refine wp_ishl (pc' := 56) rfl rfl ?_
          refine wp_ior (pc' := 57) rfl rfl ?_
          refine wp_istore1 (pc' := 58) rfl (by first | rfl | assumption) rfl ?_
          refine wp_iload1 (pc' := 59) rfl rfl ?_
          refine wp_iret rfl rfl rfl ?_
          exact Qv kk (by
            unfold besB; dsimp only
            first | rw [if_pos (lt_nI h5 (by decide) (by omega))] | rw [if_neg (fun q => h5 (nI_lt q (by omega)))]
            first | rw [if_pos (lt_nI h20 (by omega) (by decide))] | rw [if_neg (fun q => h20 (nI_lt q (by decide)))]
            first | rw [if_pos (ge_nI h33 (by decide))] | rw [if_neg (fun q => absurd q (Nat.not_le_of_gt (lt_nI h33 (by omega) (by decide))))]
            first | rw [if_pos (lt_nI h47 (by omega) (by decide))] | rw [if_neg (fun q => h47 (nI_lt q (by decide)))]) rfl
      · intro h33
        have a3 : 5 ≤ c := ge_nI h33 (by decide)
        refine wp_iload1 (pc' := 37) rfl rfl ?_
        refine wp_iconst (v := nI 1) (pc' := 38) rfl rfl rfl ?_
        refine wp_iload0 (pc' := 39) rfl rfl ?_
        refine wp_iconst (v := nI 5) (pc' := 40) rfl rfl rfl ?_
        first | refine wp_isubN (pc' := 41) rfl (by with_reducible rfl) (by with_reducible rfl) (by omega) rfl ?_ | refine wp_isub (pc' := 41) rfl rfl ?_
        refine wp_ishl (pc' := 42) rfl rfl ?_
        refine wp_ior (pc' := 43) rfl rfl ?_
        refine wp_istore1 (pc' := 44) rfl (by first | rfl | assumption) rfl ?_
        refine wp_iload0 (pc' := 45) rfl rfl ?_
        refine wp_bipush (v := nI 20) (pc' := 47) rfl rfl rfl ?_
        refine wp_icmpge (pc' := 50) rfl rfl ?_ ?_
        · intro h47
          refine wp_iload1 (pc' := 59) rfl rfl ?_
          refine wp_iret rfl rfl rfl ?_
          exact Qv kk (by
            unfold besB; dsimp only
            first | rw [if_pos (lt_nI h5 (by decide) (by omega))] | rw [if_neg (fun q => h5 (nI_lt q (by omega)))]
            first | rw [if_pos (lt_nI h20 (by omega) (by decide))] | rw [if_neg (fun q => h20 (nI_lt q (by decide)))]
            first | rw [if_pos (ge_nI h33 (by decide))] | rw [if_neg (fun q => absurd q (Nat.not_le_of_gt (lt_nI h33 (by omega) (by decide))))]
            first | rw [if_pos (lt_nI h47 (by omega) (by decide))] | rw [if_neg (fun q => h47 (nI_lt q (by decide)))]) rfl
        · intro h47
          refine wp_iload1 (pc' := 51) rfl rfl ?_
          refine wp_iconst (v := nI 1) (pc' := 52) rfl rfl rfl ?_
          refine wp_iload0 (pc' := 53) rfl rfl ?_
          refine wp_iconst (v := nI 5) (pc' := 54) rfl rfl rfl ?_
          first | refine wp_iaddN (pc' := 55) rfl (by with_reducible rfl) (by with_reducible rfl) rfl ?_ | refine wp_iadd (pc' := 55) rfl rfl ?_
          refine wp_ishl (pc' := 56) rfl rfl ?_
          refine wp_ior (pc' := 57) rfl rfl ?_
          refine wp_istore1 (pc' := 58) rfl (by first | rfl | assumption) rfl ?_
          refine wp_iload1 (pc' := 59) rfl rfl ?_
          refine wp_iret rfl rfl rfl ?_
          exact Qv kk (by
            unfold besB; dsimp only
            first | rw [if_pos (lt_nI h5 (by decide) (by omega))] | rw [if_neg (fun q => h5 (nI_lt q (by omega)))]
            first | rw [if_pos (lt_nI h20 (by omega) (by decide))] | rw [if_neg (fun q => h20 (nI_lt q (by decide)))]
            first | rw [if_pos (ge_nI h33 (by decide))] | rw [if_neg (fun q => absurd q (Nat.not_le_of_gt (lt_nI h33 (by omega) (by decide))))]
            first | rw [if_pos (lt_nI h47 (by omega) (by decide))] | rw [if_neg (fun q => h47 (nI_lt q (by decide)))]) rfl
    · intro h20
      refine wp_iload1 (pc' := 24) rfl rfl ?_
      refine wp_iconst (v := nI 1) (pc' := 25) rfl rfl rfl ?_
      refine wp_iload0 (pc' := 26) rfl rfl ?_
      refine wp_iconst (v := nI 1) (pc' := 27) rfl rfl rfl ?_
      first | refine wp_iaddN (pc' := 28) rfl (by with_reducible rfl) (by with_reducible rfl) rfl ?_ | refine wp_iadd (pc' := 28) rfl rfl ?_
      refine wp_ishl (pc' := 29) rfl rfl ?_
      refine wp_ior (pc' := 30) rfl rfl ?_
      refine wp_istore1 (pc' := 31) rfl (by first | rfl | assumption) rfl ?_
      refine wp_iload0 (pc' := 32) rfl rfl ?_
      refine wp_iconst (v := nI 5) (pc' := 33) rfl rfl rfl ?_
      refine wp_icmplt (pc' := 36) rfl rfl ?_ ?_
      · intro h33
        refine wp_iload0 (pc' := 45) rfl rfl ?_
        refine wp_bipush (v := nI 20) (pc' := 47) rfl rfl rfl ?_
        refine wp_icmpge (pc' := 50) rfl rfl ?_ ?_
        · intro h47
          refine wp_iload1 (pc' := 59) rfl rfl ?_
          refine wp_iret rfl rfl rfl ?_
          exact Qv kk (by
            unfold besB; dsimp only
            first | rw [if_pos (lt_nI h5 (by decide) (by omega))] | rw [if_neg (fun q => h5 (nI_lt q (by omega)))]
            first | rw [if_pos (lt_nI h20 (by omega) (by decide))] | rw [if_neg (fun q => h20 (nI_lt q (by decide)))]
            first | rw [if_pos (ge_nI h33 (by decide))] | rw [if_neg (fun q => absurd q (Nat.not_le_of_gt (lt_nI h33 (by omega) (by decide))))]
            first | rw [if_pos (lt_nI h47 (by omega) (by decide))] | rw [if_neg (fun q => h47 (nI_lt q (by decide)))]) rfl
        · intro h47
          refine wp_iload1 (pc' := 51) rfl rfl ?_
          refine wp_iconst (v := nI 1) (pc' := 52) rfl rfl rfl ?_
          refine wp_iload0 (pc' := 53) rfl rfl ?_
          refine wp_iconst (v := nI 5) (pc' := 54) rfl rfl rfl ?_
          first | refine wp_iaddN (pc' := 55) rfl (by with_reducible rfl) (by with_reducible rfl) rfl ?_ | refine wp_iadd (pc' := 55) rfl rfl ?_
          refine wp_ishl (pc' := 56) rfl rfl ?_
          refine wp_ior (pc' := 57) rfl rfl ?_
          refine wp_istore1 (pc' := 58) rfl (by first | rfl | assumption) rfl ?_
          refine wp_iload1 (pc' := 59) rfl rfl ?_
          refine wp_iret rfl rfl rfl ?_
          exact Qv kk (by
            unfold besB; dsimp only
            first | rw [if_pos (lt_nI h5 (by decide) (by omega))] | rw [if_neg (fun q => h5 (nI_lt q (by omega)))]
            first | rw [if_pos (lt_nI h20 (by omega) (by decide))] | rw [if_neg (fun q => h20 (nI_lt q (by decide)))]
            first | rw [if_pos (ge_nI h33 (by decide))] | rw [if_neg (fun q => absurd q (Nat.not_le_of_gt (lt_nI h33 (by omega) (by decide))))]
            first | rw [if_pos (lt_nI h47 (by omega) (by decide))] | rw [if_neg (fun q => h47 (nI_lt q (by decide)))]) rfl
      · intro h33
        have a3 : 5 ≤ c := ge_nI h33 (by decide)
        refine wp_iload1 (pc' := 37) rfl rfl ?_
        refine wp_iconst (v := nI 1) (pc' := 38) rfl rfl rfl ?_
        refine wp_iload0 (pc' := 39) rfl rfl ?_
        refine wp_iconst (v := nI 5) (pc' := 40) rfl rfl rfl ?_
        first | refine wp_isubN (pc' := 41) rfl (by with_reducible rfl) (by with_reducible rfl) (by omega) rfl ?_ | refine wp_isub (pc' := 41) rfl rfl ?_
        refine wp_ishl (pc' := 42) rfl rfl ?_
        refine wp_ior (pc' := 43) rfl rfl ?_
        refine wp_istore1 (pc' := 44) rfl (by first | rfl | assumption) rfl ?_
        refine wp_iload0 (pc' := 45) rfl rfl ?_
        refine wp_bipush (v := nI 20) (pc' := 47) rfl rfl rfl ?_
        refine wp_icmpge (pc' := 50) rfl rfl ?_ ?_
        · intro h47
          refine wp_iload1 (pc' := 59) rfl rfl ?_
          refine wp_iret rfl rfl rfl ?_
          exact Qv kk (by
            unfold besB; dsimp only
            first | rw [if_pos (lt_nI h5 (by decide) (by omega))] | rw [if_neg (fun q => h5 (nI_lt q (by omega)))]
            first | rw [if_pos (lt_nI h20 (by omega) (by decide))] | rw [if_neg (fun q => h20 (nI_lt q (by decide)))]
            first | rw [if_pos (ge_nI h33 (by decide))] | rw [if_neg (fun q => absurd q (Nat.not_le_of_gt (lt_nI h33 (by omega) (by decide))))]
            first | rw [if_pos (lt_nI h47 (by omega) (by decide))] | rw [if_neg (fun q => h47 (nI_lt q (by decide)))]) rfl
        · intro h47
          refine wp_iload1 (pc' := 51) rfl rfl ?_
          refine wp_iconst (v := nI 1) (pc' := 52) rfl rfl rfl ?_
          refine wp_iload0 (pc' := 53) rfl rfl ?_
          refine wp_iconst (v := nI 5) (pc' := 54) rfl rfl rfl ?_
          first | refine wp_iaddN (pc' := 55) rfl (by with_reducible rfl) (by with_reducible rfl) rfl ?_ | refine wp_iadd (pc' := 55) rfl rfl ?_
          refine wp_ishl (pc' := 56) rfl rfl ?_
          refine wp_ior (pc' := 57) rfl rfl ?_
          refine wp_istore1 (pc' := 58) rfl (by first | rfl | assumption) rfl ?_
          refine wp_iload1 (pc' := 59) rfl rfl ?_
          refine wp_iret rfl rfl rfl ?_
          exact Qv kk (by
            unfold besB; dsimp only
            first | rw [if_pos (lt_nI h5 (by decide) (by omega))] | rw [if_neg (fun q => h5 (nI_lt q (by omega)))]
            first | rw [if_pos (lt_nI h20 (by omega) (by decide))] | rw [if_neg (fun q => h20 (nI_lt q (by decide)))]
            first | rw [if_pos (ge_nI h33 (by decide))] | rw [if_neg (fun q => absurd q (Nat.not_le_of_gt (lt_nI h33 (by omega) (by decide))))]
            first | rw [if_pos (lt_nI h47 (by omega) (by decide))] | rw [if_neg (fun q => h47 (nI_lt q (by decide)))]) rfl
theorem m_wider {d : Nat} {K : Nat → Nat × Nat} {I : Nat → Nat → Int32} {L : Nat → Nat → Int64} {R : Nat → Nat → Option Nat} {n s : Nat} {Q : Lo → Lm → Prop} {x y : Int32}  (kk : Q (.inl (some (.int (widC x y)))) (K, I, L, R, n, s)) : Ok (d + 2) 262 [.int x, .int y] (K, I, L, R, n, s) Q := by
  refine Ok.enter (F := F_262) (ls := [.int x, .int y, lDead, lDead]) rfl rfl ?_
  refine wp_iload0 (pc' := 1) rfl rfl ?_
  refine wp_istore2 (pc' := 2) rfl (by first | rfl | assumption) rfl ?_
  refine wp_iconst (v := nI 0) (pc' := 3) rfl rfl rfl ?_
  refine wp_istore3 (pc' := 4) rfl (by first | rfl | assumption) rfl ?_
  have lp4 : ∀ r (i : Nat), i + r = 25 → WP (d + 1) F_262 4 [.int x, .int y, .int (widN x y i), .int (nI i)] [] (K, I, L, R, n, s) Q := by
    intro r; induction r with
    | zero =>
      intro i hi 
      have hi2 : i = 25 := by omega
      subst hi2
      refine wp_iload3 (pc' := 5) rfl rfl ?_
      refine wp_bipush (v := nI 25) (pc' := 7) rfl rfl rfl ?_
      refine wp_icmpgeT rfl (nI_nlt (by omega) (by omega)) ?_
      refine wp_iload2 (pc' := 38) rfl rfl ?_
      refine wp_iret rfl rfl rfl ?_
      exact kk
    | succ r ih =>
      intro i hi 
      have hlt : i < 25 := by omega
      refine wp_iload3 (pc' := 5) rfl rfl ?_
      refine wp_bipush (v := nI 25) (pc' := 7) rfl rfl rfl ?_
      refine wp_icmpgeF (pc' := 10) rfl (nI_lt (by omega) (by omega)) rfl ?_
      refine wp_iload2 (pc' := 11) rfl rfl ?_
      refine wp_iload0 (pc' := 12) rfl rfl ?_
      refine wp_iload3 (pc' := 13) rfl rfl ?_
      refine wp_callS2 (pc' := 16) rfl rfl rfl rfl rfl rfl ?_
      refine m_has ?_
      refine Cont.v ?_
      first | refine wp_ifeqB (pc' := 19) rfl rfl ?_ ?_ | refine wp_ifeq (pc' := 19) rfl rfl ?_ ?_
      · intro h16
        refine wp_iconst (v := nI 0) (pc' := 29) rfl rfl rfl ?_
        refine wp_ior (pc' := 30) rfl rfl ?_
        refine wp_istore2 (pc' := 31) rfl (by first | rfl | assumption) rfl ?_
        first | refine wp_iinc3 (w := nI 1) (pc' := 34) rfl rfl rfl (by with_reducible exact nI_add _ _) rfl ?_ | refine wp_iinc3 (w := nI 1) (pc' := 34) rfl rfl rfl rfl rfl ?_
        refine wp_goto rfl ?_
        exact WP.cg (ih (i + 1) (by omega)) (lI1 (by first | with_reducible rfl | (show _ = forN _ _ (i + 1); rw [forN, if_pos h16]; rfl) | (show _ = forN _ _ (i + 1); rw [forN, if_neg h16]; rfl)) (lI1 (by first | with_reducible rfl | (show _ = forN _ _ (i + 1); rw [forN, if_pos h16]; rfl) | (show _ = forN _ _ (i + 1); rw [forN, if_neg h16]; rfl)) (lI1 (by first | with_reducible rfl | (show _ = forN _ _ (i + 1); rw [forN, if_pos h16]; rfl) | (show _ = forN _ _ (i + 1); rw [forN, if_neg h16]; rfl)) (lI1 (by first | with_reducible rfl | (show _ = forN _ _ (i + 1); rw [forN, if_pos h16]; rfl) | (show _ = forN _ _ (i + 1); rw [forN, if_neg h16]; rfl)) rfl)))) rfl (by first | with_reducible rfl | (simp only [forN, *, ↓reduceIte, not_true_eq_false, not_false_eq_true, and_self, and_true, true_and, and_false, false_and]; done) | rfl | (simp_all [forN]; done))
      · intro h16
        refine wp_iload3 (pc' := 20) rfl rfl ?_
        refine wp_callS1 (pc' := 23) rfl rfl rfl rfl rfl rfl ?_
        refine m_beside (by omega) ?_
        refine Cont.v ?_
        refine wp_iload1 (pc' := 24) rfl rfl ?_
        refine wp_iand (pc' := 25) rfl rfl ?_
        refine wp_goto rfl ?_
        refine wp_ior (pc' := 30) rfl rfl ?_
        refine wp_istore2 (pc' := 31) rfl (by first | rfl | assumption) rfl ?_
        first | refine wp_iinc3 (w := nI 1) (pc' := 34) rfl rfl rfl (by with_reducible exact nI_add _ _) rfl ?_ | refine wp_iinc3 (w := nI 1) (pc' := 34) rfl rfl rfl rfl rfl ?_
        refine wp_goto rfl ?_
        exact WP.cg (ih (i + 1) (by omega)) (lI1 (by first | with_reducible rfl | (show _ = forN _ _ (i + 1); rw [forN, if_pos h16]; rfl) | (show _ = forN _ _ (i + 1); rw [forN, if_neg h16]; rfl)) (lI1 (by first | with_reducible rfl | (show _ = forN _ _ (i + 1); rw [forN, if_pos h16]; rfl) | (show _ = forN _ _ (i + 1); rw [forN, if_neg h16]; rfl)) (lI1 (by first | with_reducible rfl | (show _ = forN _ _ (i + 1); rw [forN, if_pos h16]; rfl) | (show _ = forN _ _ (i + 1); rw [forN, if_neg h16]; rfl)) (lI1 (by first | with_reducible rfl | (show _ = forN _ _ (i + 1); rw [forN, if_pos h16]; rfl) | (show _ = forN _ _ (i + 1); rw [forN, if_neg h16]; rfl)) rfl)))) rfl (by first | with_reducible rfl | (simp only [forN, *, ↓reduceIte, not_true_eq_false, not_false_eq_true, and_self, and_true, true_and, and_false, false_and]; done) | rfl | (simp_all [forN]; done))
  exact WP.cg (lp4 (25 - (0)) (0) (by omega)) (lI1 (by rfl) (lI1 (by rfl) (lI1 (by rfl) (lI1 (by rfl) rfl)))) rfl (by first | with_reducible rfl | (simp only [forN, *, ↓reduceIte, not_true_eq_false, not_false_eq_true, and_self, and_true, true_and, and_false, false_and]; done) | rfl | (simp_all [forN]; done))
theorem m_pieceOf {d : Nat} {K : Nat → Nat × Nat} {I : Nat → Nat → Int32} {L : Nat → Nat → Int64} {R : Nat → Nat → Option Nat} {n s : Nat} {Q : Lo → Lm → Prop} {y : Int32} {c : Nat}  (kk : Q (.inl (some (.int (pieC c y)))) (K, I, L, R, n, s)) : Ok (d + 3) 261 [.int (nI c), .int y] (K, I, L, R, n, s) Q := by
  refine Ok.enter (F := F_261) (ls := [.int (nI c), .int y, lDead, lDead]) rfl rfl ?_
  refine wp_iconst (v := nI 1) (pc' := 1) rfl rfl rfl ?_
  refine wp_iload0 (pc' := 2) rfl rfl ?_
  refine wp_ishl (pc' := 3) rfl rfl ?_
  refine wp_iload1 (pc' := 4) rfl rfl ?_
  refine wp_iand (pc' := 5) rfl rfl ?_
  refine wp_istore2 (pc' := 6) rfl (by first | rfl | assumption) rfl ?_
  refine wp_iconst (v := nI 0) (pc' := 7) rfl rfl rfl ?_
  refine wp_istore3 (pc' := 8) rfl (by first | rfl | assumption) rfl ?_
  have lp8 : ∀ r (i : Nat), i + r = 25 → WP (d + 2) F_261 8 [.int (nI c), .int y, .int (pieN (jshl (nI 1) (nI c) &&& y) y i), .int (nI i)] [] (K, I, L, R, n, s) Q := by
    intro r; induction r with
    | zero =>
      intro i hi 
      have hi2 : i = 25 := by omega
      subst hi2
      refine wp_iload3 (pc' := 9) rfl rfl ?_
      refine wp_bipush (v := nI 25) (pc' := 11) rfl rfl rfl ?_
      refine wp_icmpgeT rfl (nI_nlt (by omega) (by omega)) ?_
      refine wp_iload2 (pc' := 27) rfl rfl ?_
      refine wp_iret rfl rfl rfl ?_
      exact kk
    | succ r ih =>
      intro i hi 
      have hlt : i < 25 := by omega
      refine wp_iload3 (pc' := 9) rfl rfl ?_
      refine wp_bipush (v := nI 25) (pc' := 11) rfl rfl rfl ?_
      refine wp_icmpgeF (pc' := 14) rfl (nI_lt (by omega) (by omega)) rfl ?_
      refine wp_iload2 (pc' := 15) rfl rfl ?_
      refine wp_iload1 (pc' := 16) rfl rfl ?_
      refine wp_callS2 (pc' := 19) rfl rfl rfl rfl rfl rfl ?_
      refine m_wider ?_
      refine Cont.v ?_
      refine wp_istore2 (pc' := 20) rfl (by first | rfl | assumption) rfl ?_
      first | refine wp_iinc3 (w := nI 1) (pc' := 23) rfl rfl rfl (by with_reducible exact nI_add _ _) rfl ?_ | refine wp_iinc3 (w := nI 1) (pc' := 23) rfl rfl rfl rfl rfl ?_
      refine wp_goto rfl ?_
      exact WP.cg (ih (i + 1) (by omega)) (lI1 (by rfl) (lI1 (by rfl) (lI1 (by rfl) (lI1 (by rfl) rfl)))) rfl (by first | with_reducible rfl | (simp only [forN, *, ↓reduceIte, not_true_eq_false, not_false_eq_true, and_self, and_true, true_and, and_false, false_and]; done) | rfl | (simp_all [forN]; done))
  exact WP.cg (lp8 (25 - (0)) (0) (by omega)) (lI1 (by rfl) (lI1 (by rfl) (lI1 (by rfl) (lI1 (by rfl) rfl)))) rfl (by first | with_reducible rfl | (simp only [forN, *, ↓reduceIte, not_true_eq_false, not_false_eq_true, and_self, and_true, true_and, and_false, false_and]; done) | rfl | (simp_all [forN]; done))
theorem m_withDrain {d : Nat} {K : Nat → Nat × Nat} {I : Nat → Nat → Int32} {L : Nat → Nat → Int64} {R : Nat → Nat → Option Nat} {n s : Nat} {Q : Lo → Lm → Prop}  (hT : TK K R n) (kk : Q (.inl (some (.int (drW (I 319) 25)))) (K, I, L, R, n, s)) : Ok (d + 3) 259 [.ref 318] (K, I, L, R, n, s) Q := by
  obtain ⟨-, -, hn⟩ := id hT
  refine Ok.enter (F := F_259) (ls := [.ref 318, lDead, lDead]) rfl rfl ?_
  refine wp_iconst (v := nI 0) (pc' := 1) rfl rfl rfl ?_
  refine wp_istore1 (pc' := 2) rfl (by first | rfl | assumption) rfl ?_
  refine wp_iconst (v := nI 0) (pc' := 3) rfl rfl rfl ?_
  refine wp_istore2 (pc' := 4) rfl (by first | rfl | assumption) rfl ?_
  have lp4 : ∀ r (i : Nat), i + r = 25 → WP (d + 2) F_259 4 [.ref 318, .int (drW (I 319) i), .int (nI i)] [] (K, I, L, R, n, s) Q := by
    intro r; induction r with
    | zero =>
      intro i hi 
      have hi2 : i = 25 := by omega
      subst hi2
      refine wp_iload2 (pc' := 5) rfl rfl ?_
      refine wp_bipush (v := nI 25) (pc' := 7) rfl rfl rfl ?_
      refine wp_icmpgeT rfl (nI_nlt (by omega) (by omega)) ?_
      refine wp_iload1 (pc' := 28) rfl rfl ?_
      refine wp_iret rfl rfl rfl ?_
      exact kk
    | succ r ih =>
      intro i hi 
      have hlt : i < 25 := by omega
      refine wp_iload2 (pc' := 5) rfl rfl ?_
      refine wp_bipush (v := nI 25) (pc' := 7) rfl rfl rfl ?_
      refine wp_icmpgeF (pc' := 10) rfl (nI_lt (by omega) (by omega)) rfl ?_
      refine wp_iload1 (pc' := 11) rfl rfl ?_
      refine wp_aload0 (pc' := 12) rfl rfl ?_
      refine wp_iload2 (pc' := 13) rfl rfl ?_
      refine wp_iconst (v := nI 2) (pc' := 14) rfl rfl rfl ?_
      refine wp_callV3 (pc' := 17) rfl rfl rfl rfl rfl (by first | exact TK.k1 hT rfl | exact TK.kk hT rfl | exact TK.r hT rfl | assumption) rfl rfl ?_
      refine m_of hT (by omega) (by decide) ?_
      refine Cont.v ?_
      refine wp_iload2 (pc' := 18) rfl rfl ?_
      refine wp_ishl (pc' := 19) rfl rfl ?_
      refine wp_ior (pc' := 20) rfl rfl ?_
      refine wp_istore1 (pc' := 21) rfl (by first | rfl | assumption) rfl ?_
      first | refine wp_iinc2 (w := nI 1) (pc' := 24) rfl rfl rfl (by with_reducible exact nI_add _ _) rfl ?_ | refine wp_iinc2 (w := nI 1) (pc' := 24) rfl rfl rfl rfl rfl ?_
      refine wp_goto rfl ?_
      exact WP.cg (ih (i + 1) (by omega)) (lC1 (lI1 (by rfl) (lI1 (by rfl) rfl))) rfl (by first | with_reducible rfl | (simp only [forN, *, ↓reduceIte, not_true_eq_false, not_false_eq_true, and_self, and_true, true_and, and_false, false_and]; done) | rfl | (simp_all [forN]; done))
  exact WP.cg (lp4 (25 - (0)) (0) (by omega)) (lC1 (lI1 (by rfl) (lI1 (by rfl) rfl))) rfl (by first | with_reducible rfl | (simp only [forN, *, ↓reduceIte, not_true_eq_false, not_false_eq_true, and_self, and_true, true_and, and_false, false_and]; done) | rfl | (simp_all [forN]; done))
theorem m_allDrained {d : Nat} {K : Nat → Nat × Nat} {I : Nat → Nat → Int32} {L : Nat → Nat → Int64} {R : Nat → Nat → Option Nat} {n s : Nat} {Q : Lo → Lm → Prop}  (hT : TK K R n) (kk : Q (.inl (some (.int (alW (I 319))))) (K, I, L, R, n, s)) : Ok (d + 4) 258 [.ref 318] (K, I, L, R, n, s) Q := by
  obtain ⟨-, -, hn⟩ := id hT
  refine Ok.enter (F := F_258) (ls := [.ref 318]) rfl rfl ?_
  refine wp_bipush (v := nI 24) (pc' := 2) rfl rfl rfl ?_
  refine wp_aload0 (pc' := 3) rfl rfl ?_
  refine wp_callV1 (pc' := 6) rfl rfl rfl rfl rfl (by first | exact TK.k1 hT rfl | exact TK.kk hT rfl | exact TK.r hT rfl | assumption) rfl rfl ?_
  refine m_withDrain hT ?_
  refine Cont.v ?_
  refine wp_callS2 (pc' := 9) rfl rfl rfl rfl rfl rfl ?_
  refine m_pieceOf ?_
  refine Cont.v ?_
  refine wp_iret rfl rfl rfl ?_
  exact kk
theorem m_isOpen {d : Nat} {K : Nat → Nat × Nat} {I : Nat → Nat → Int32} {L : Nat → Nat → Int64} {R : Nat → Nat → Option Nat} {n s : Nat} {Q : Lo → Lm → Prop} {c : Nat} (hT : TK K R n) (hc : c < 25) (kk : Q (.inl (some (.int (if openQ (Sv (I 319)) c then nI 1 else nI 0)))) (K, I, L, R, n, s)) : Ok (d + 3) 265 [.ref 318, .int (nI c)] (K, I, L, R, n, s) Q := by
  obtain ⟨-, -, hn⟩ := id hT
  refine Ok.enter (F := F_265) (ls := [.ref 318, .int (nI c)]) rfl rfl ?_
  refine wp_aload0 (pc' := 1) rfl rfl ?_
  refine wp_iload1 (pc' := 2) rfl rfl ?_
  refine wp_iconst (v := nI 0) (pc' := 3) rfl rfl rfl ?_
  refine wp_callV3 (pc' := 6) rfl rfl rfl rfl rfl (by first | exact TK.k1 hT rfl | exact TK.kk hT rfl | exact TK.r hT rfl | assumption) rfl rfl ?_
  refine m_of hT (by omega) (by decide) ?_
  refine Cont.v ?_
  refine wp_ifle (pc' := 9) rfl rfl ?_ ?_
  · intro h6
    refine wp_iconst (v := nI 0) (pc' := 35) rfl rfl rfl ?_
    refine wp_iret rfl rfl (by first | rfl | exact nar_if) ?_
    exact Qv kk (by first | rw [if_pos (show openQ (Sv (I 319)) c from ⟨by rw [Sv_1 hc]; exact h6, by rw [Sv_2 hc]; exact h16, by rw [Sv_3 hc]; exact h27⟩)] | rw [if_neg (fun q : openQ (Sv (I 319)) c => h6 (by rw [← Sv_1 (w := I 319) hc]; exact q.1))] | rw [if_neg (fun q : openQ (Sv (I 319)) c => q.2.1 (by rw [Sv_2 hc]; exact h16))] | rw [if_neg (fun q : openQ (Sv (I 319)) c => h27 (by rw [← Sv_3 (w := I 319) hc]; exact q.2.2))]) rfl
  · intro h6
    refine wp_aload0 (pc' := 10) rfl rfl ?_
    refine wp_iload1 (pc' := 11) rfl rfl ?_
    refine wp_iconst (v := nI 1) (pc' := 12) rfl rfl rfl ?_
    refine wp_callV3 (pc' := 15) rfl rfl rfl rfl rfl (by first | exact TK.k1 hT rfl | exact TK.kk hT rfl | exact TK.r hT rfl | assumption) rfl rfl ?_
    refine m_of hT (by omega) (by decide) ?_
    refine Cont.v ?_
    refine wp_iconst (v := nI 3) (pc' := 16) rfl rfl rfl ?_
    refine wp_icmpgt (pc' := 19) rfl rfl ?_ ?_
    · intro h16
      refine wp_iconst (v := nI 0) (pc' := 35) rfl rfl rfl ?_
      refine wp_iret rfl rfl (by first | rfl | exact nar_if) ?_
      exact Qv kk (by first | rw [if_pos (show openQ (Sv (I 319)) c from ⟨by rw [Sv_1 hc]; exact h6, by rw [Sv_2 hc]; exact h16, by rw [Sv_3 hc]; exact h27⟩)] | rw [if_neg (fun q : openQ (Sv (I 319)) c => h6 (by rw [← Sv_1 (w := I 319) hc]; exact q.1))] | rw [if_neg (fun q : openQ (Sv (I 319)) c => q.2.1 (by rw [Sv_2 hc]; exact h16))] | rw [if_neg (fun q : openQ (Sv (I 319)) c => h27 (by rw [← Sv_3 (w := I 319) hc]; exact q.2.2))]) rfl
    · intro h16
      refine wp_aload0 (pc' := 20) rfl rfl ?_
      refine wp_iload1 (pc' := 21) rfl rfl ?_
      refine wp_iconst (v := nI 3) (pc' := 22) rfl rfl rfl ?_
      refine wp_callV3 (pc' := 25) rfl rfl rfl rfl rfl (by first | exact TK.k1 hT rfl | exact TK.kk hT rfl | exact TK.r hT rfl | assumption) rfl rfl ?_
      refine m_of hT (by omega) (by decide) ?_
      refine Cont.v ?_
      refine wp_bipush (v := nI 90) (pc' := 27) rfl rfl rfl ?_
      refine wp_icmpge (pc' := 30) rfl rfl ?_ ?_
      · intro h27
        refine wp_iconst (v := nI 0) (pc' := 35) rfl rfl rfl ?_
        refine wp_iret rfl rfl (by first | rfl | exact nar_if) ?_
        exact Qv kk (by first | rw [if_pos (show openQ (Sv (I 319)) c from ⟨by rw [Sv_1 hc]; exact h6, by rw [Sv_2 hc]; exact h16, by rw [Sv_3 hc]; exact h27⟩)] | rw [if_neg (fun q : openQ (Sv (I 319)) c => h6 (by rw [← Sv_1 (w := I 319) hc]; exact q.1))] | rw [if_neg (fun q : openQ (Sv (I 319)) c => q.2.1 (by rw [Sv_2 hc]; exact h16))] | rw [if_neg (fun q : openQ (Sv (I 319)) c => h27 (by rw [← Sv_3 (w := I 319) hc]; exact q.2.2))]) rfl
      · intro h27
        refine wp_iconst (v := nI 1) (pc' := 31) rfl rfl rfl ?_
        refine wp_goto rfl ?_
        refine wp_iret rfl rfl (by first | rfl | exact nar_if) ?_
        exact Qv kk (by first | rw [if_pos (show openQ (Sv (I 319)) c from ⟨by rw [Sv_1 hc]; exact h6, by rw [Sv_2 hc]; exact h16, by rw [Sv_3 hc]; exact h27⟩)] | rw [if_neg (fun q : openQ (Sv (I 319)) c => h6 (by rw [← Sv_1 (w := I 319) hc]; exact q.1))] | rw [if_neg (fun q : openQ (Sv (I 319)) c => q.2.1 (by rw [Sv_2 hc]; exact h16))] | rw [if_neg (fun q : openQ (Sv (I 319)) c => h27 (by rw [← Sv_3 (w := I 319) hc]; exact q.2.2))]) rfl
theorem m_allOpen {d : Nat} {K : Nat → Nat × Nat} {I : Nat → Nat → Int32} {L : Nat → Nat → Int64} {R : Nat → Nat → Option Nat} {n s : Nat} {Q : Lo → Lm → Prop}  (hT : TK K R n) (kk : Q (.inl (some (.int (openS (Sv (I 319)))))) (K, I, L, R, n, s)) : Ok (d + 4) 307 [.ref 318] (K, I, L, R, n, s) Q := by
  obtain ⟨-, -, hn⟩ := id hT
  refine Ok.enter (F := F_307) (ls := [.ref 318, lDead, lDead]) rfl rfl ?_
  refine wp_iconst (v := nI 0) (pc' := 1) rfl rfl rfl ?_
  refine wp_istore1 (pc' := 2) rfl (by first | rfl | assumption) rfl ?_
  refine wp_iconst (v := nI 0) (pc' := 3) rfl rfl rfl ?_
  refine wp_istore2 (pc' := 4) rfl (by first | rfl | assumption) rfl ?_
  have lp4 : ∀ r (i : Nat), i + r = 25 → WP (d + 3) F_307 4 [.ref 318, .int (forN (fun c f => if openQ (Sv (I 319)) c then f ||| jshl (nI 1) (nI c) else f) (nI 0) i), .int (nI i)] [] (K, I, L, R, n, s) Q := by
    intro r; induction r with
    | zero =>
      intro i hi 
      have hi2 : i = 25 := by omega
      subst hi2
      refine wp_iload2 (pc' := 5) rfl rfl ?_
      refine wp_bipush (v := nI 25) (pc' := 7) rfl rfl rfl ?_
      refine wp_icmpgeT rfl (nI_nlt (by omega) (by omega)) ?_
      refine wp_iload1 (pc' := 35) rfl rfl ?_
      refine wp_iret rfl rfl rfl ?_
      exact kk
    | succ r ih =>
      intro i hi 
      have hlt : i < 25 := by omega
      refine wp_iload2 (pc' := 5) rfl rfl ?_
      refine wp_bipush (v := nI 25) (pc' := 7) rfl rfl rfl ?_
      refine wp_icmpgeF (pc' := 10) rfl (nI_lt (by omega) (by omega)) rfl ?_
      refine wp_iload1 (pc' := 11) rfl rfl ?_
      refine wp_aload0 (pc' := 12) rfl rfl ?_
      refine wp_iload2 (pc' := 13) rfl rfl ?_
      refine wp_callV2 (pc' := 16) rfl rfl rfl rfl rfl (by first | exact TK.k1 hT rfl | exact TK.kk hT rfl | exact TK.r hT rfl | assumption) rfl rfl ?_
      refine m_isOpen hT (by omega) ?_
      refine Cont.v ?_
      first | refine wp_ifeqB (pc' := 19) rfl rfl ?_ ?_ | refine wp_ifeq (pc' := 19) rfl rfl ?_ ?_
      · intro h16
        refine wp_iconst (v := nI 0) (pc' := 26) rfl rfl rfl ?_
        refine wp_ior (pc' := 27) rfl rfl ?_
        refine wp_istore1 (pc' := 28) rfl (by first | rfl | assumption) rfl ?_
        first | refine wp_iinc2 (w := nI 1) (pc' := 31) rfl rfl rfl (by with_reducible exact nI_add _ _) rfl ?_ | refine wp_iinc2 (w := nI 1) (pc' := 31) rfl rfl rfl rfl rfl ?_
        refine wp_goto rfl ?_
        exact WP.cg (ih (i + 1) (by omega)) (lC1 (lI1 (by first | with_reducible rfl | rw [forN, if_pos h16] | rw [forN, if_neg h16, or_n0]) (lI1 (by first | with_reducible rfl | rw [forN, if_pos h16] | rw [forN, if_neg h16, or_n0]) rfl))) rfl (by first | with_reducible rfl | (simp only [forN, *, ↓reduceIte, not_true_eq_false, not_false_eq_true, and_self, and_true, true_and, and_false, false_and]; done) | rfl | (simp_all [forN]; done))
      · intro h16
        refine wp_iconst (v := nI 1) (pc' := 20) rfl rfl rfl ?_
        refine wp_iload2 (pc' := 21) rfl rfl ?_
        refine wp_ishl (pc' := 22) rfl rfl ?_
        refine wp_goto rfl ?_
        refine wp_ior (pc' := 27) rfl rfl ?_
        refine wp_istore1 (pc' := 28) rfl (by first | rfl | assumption) rfl ?_
        first | refine wp_iinc2 (w := nI 1) (pc' := 31) rfl rfl rfl (by with_reducible exact nI_add _ _) rfl ?_ | refine wp_iinc2 (w := nI 1) (pc' := 31) rfl rfl rfl rfl rfl ?_
        refine wp_goto rfl ?_
        exact WP.cg (ih (i + 1) (by omega)) (lC1 (lI1 (by first | with_reducible rfl | rw [forN, if_pos h16] | rw [forN, if_neg h16, or_n0]) (lI1 (by first | with_reducible rfl | rw [forN, if_pos h16] | rw [forN, if_neg h16, or_n0]) rfl))) rfl (by first | with_reducible rfl | (simp only [forN, *, ↓reduceIte, not_true_eq_false, not_false_eq_true, and_self, and_true, true_and, and_false, false_and]; done) | rfl | (simp_all [forN]; done))
  exact WP.cg (lp4 (25 - (0)) (0) (by omega)) (lC1 (lI1 (by rfl) (lI1 (by rfl) rfl))) rfl (by first | with_reducible rfl | (simp only [forN, *, ↓reduceIte, not_true_eq_false, not_false_eq_true, and_self, and_true, true_and, and_false, false_and]; done) | rfl | (simp_all [forN]; done))
theorem m_peat {d : Nat} {K : Nat → Nat × Nat} {I : Nat → Nat → Int32} {L : Nat → Nat → Int64} {R : Nat → Nat → Option Nat} {n s : Nat} {Q : Lo → Lm → Prop}  (hT : TK K R n) (kk : Q (.inl (some (.int (peatS (Sv (I 319)))))) (K, I, L, R, n, s)) : Ok (d + 3) 339 [.ref 318] (K, I, L, R, n, s) Q := by
  obtain ⟨-, -, hn⟩ := id hT
  refine Ok.enter (F := F_339) (ls := [.ref 318, lDead, lDead]) rfl rfl ?_
  refine wp_iconst (v := nI 0) (pc' := 1) rfl rfl rfl ?_
  refine wp_istore1 (pc' := 2) rfl (by first | rfl | assumption) rfl ?_
  refine wp_iconst (v := nI 0) (pc' := 3) rfl rfl rfl ?_
  refine wp_istore2 (pc' := 4) rfl (by first | rfl | assumption) rfl ?_
  have lp4 : ∀ r (i : Nat), i + r = 25 → WP (d + 2) F_339 4 [.ref 318, .int (forN (fun c f => if nI 0 < (Sv (I 319)) 1 c then f ||| jshl (nI 1) (nI c) else f) (nI 0) i), .int (nI i)] [] (K, I, L, R, n, s) Q := by
    intro r; induction r with
    | zero =>
      intro i hi 
      have hi2 : i = 25 := by omega
      subst hi2
      refine wp_iload2 (pc' := 5) rfl rfl ?_
      refine wp_bipush (v := nI 25) (pc' := 7) rfl rfl rfl ?_
      refine wp_icmpgeT rfl (nI_nlt (by omega) (by omega)) ?_
      refine wp_iload1 (pc' := 36) rfl rfl ?_
      refine wp_iret rfl rfl rfl ?_
      exact kk
    | succ r ih =>
      intro i hi 
      have hlt : i < 25 := by omega
      have hs1 : Sv (I 319) 1 i = I 319 (9 + 6 * i + 0) := Sv_1 (by omega)
      refine wp_iload2 (pc' := 5) rfl rfl ?_
      refine wp_bipush (v := nI 25) (pc' := 7) rfl rfl rfl ?_
      refine wp_icmpgeF (pc' := 10) rfl (nI_lt (by omega) (by omega)) rfl ?_
      refine wp_iload1 (pc' := 11) rfl rfl ?_
      refine wp_aload0 (pc' := 12) rfl rfl ?_
      refine wp_iload2 (pc' := 13) rfl rfl ?_
      refine wp_iconst (v := nI 0) (pc' := 14) rfl rfl rfl ?_
      refine wp_callV3 (pc' := 17) rfl rfl rfl rfl rfl (by first | exact TK.k1 hT rfl | exact TK.kk hT rfl | exact TK.r hT rfl | assumption) rfl rfl ?_
      refine m_of hT (by omega) (by decide) ?_
      refine Cont.v ?_
      refine wp_ifle (pc' := 20) rfl rfl ?_ ?_
      · intro h17
        refine wp_iconst (v := nI 0) (pc' := 27) rfl rfl rfl ?_
        refine wp_ior (pc' := 28) rfl rfl ?_
        refine wp_istore1 (pc' := 29) rfl (by first | rfl | assumption) rfl ?_
        first | refine wp_iinc2 (w := nI 1) (pc' := 32) rfl rfl rfl (by with_reducible exact nI_add _ _) rfl ?_ | refine wp_iinc2 (w := nI 1) (pc' := 32) rfl rfl rfl rfl rfl ?_
        refine wp_goto rfl ?_
        exact WP.cg (ih (i + 1) (by omega)) (lC1 (lI1 (by first | with_reducible rfl | rw [forN, if_pos (show nI 0 < Sv (I 319) 1 i by rw [hs1]; exact h17)] | rw [forN, if_neg (show ¬ nI 0 < Sv (I 319) 1 i by rw [hs1]; exact h17), or_n0]) (lI1 (by first | with_reducible rfl | rw [forN, if_pos (show nI 0 < Sv (I 319) 1 i by rw [hs1]; exact h17)] | rw [forN, if_neg (show ¬ nI 0 < Sv (I 319) 1 i by rw [hs1]; exact h17), or_n0]) rfl))) rfl (by first | with_reducible rfl | (simp only [forN, *, ↓reduceIte, not_true_eq_false, not_false_eq_true, and_self, and_true, true_and, and_false, false_and]; done) | rfl | (simp_all [forN]; done))
      · intro h17
        refine wp_iconst (v := nI 1) (pc' := 21) rfl rfl rfl ?_
        refine wp_iload2 (pc' := 22) rfl rfl ?_
        refine wp_ishl (pc' := 23) rfl rfl ?_
        refine wp_goto rfl ?_
        refine wp_ior (pc' := 28) rfl rfl ?_
        refine wp_istore1 (pc' := 29) rfl (by first | rfl | assumption) rfl ?_
        first | refine wp_iinc2 (w := nI 1) (pc' := 32) rfl rfl rfl (by with_reducible exact nI_add _ _) rfl ?_ | refine wp_iinc2 (w := nI 1) (pc' := 32) rfl rfl rfl rfl rfl ?_
        refine wp_goto rfl ?_
        exact WP.cg (ih (i + 1) (by omega)) (lC1 (lI1 (by first | with_reducible rfl | rw [forN, if_pos (show nI 0 < Sv (I 319) 1 i by rw [hs1]; exact h17)] | rw [forN, if_neg (show ¬ nI 0 < Sv (I 319) 1 i by rw [hs1]; exact h17), or_n0]) (lI1 (by first | with_reducible rfl | rw [forN, if_pos (show nI 0 < Sv (I 319) 1 i by rw [hs1]; exact h17)] | rw [forN, if_neg (show ¬ nI 0 < Sv (I 319) 1 i by rw [hs1]; exact h17), or_n0]) rfl))) rfl (by first | with_reducible rfl | (simp only [forN, *, ↓reduceIte, not_true_eq_false, not_false_eq_true, and_self, and_true, true_and, and_false, false_and]; done) | rfl | (simp_all [forN]; done))
  exact WP.cg (lp4 (25 - (0)) (0) (by omega)) (lC1 (lI1 (by rfl) (lI1 (by rfl) rfl))) rfl (by first | with_reducible rfl | (simp only [forN, *, ↓reduceIte, not_true_eq_false, not_false_eq_true, and_self, and_true, true_and, and_false, false_and]; done) | rfl | (simp_all [forN]; done))
theorem m_ownersOf {d : Nat} {K : Nat → Nat × Nat} {I : Nat → Nat → Int32} {L : Nat → Nat → Int64} {R : Nat → Nat → Option Nat} {n s : Nat} {Q : Lo → Lm → Prop} {c H : Nat} (hT : TK K R n) (hw : I 319 0 = nI H) (hH6 : H ≤ 6) (kk : Q (.inl (some (.int (ownS (Sv (I 319)) c H)))) (K, I, L, R, n, s)) : Ok (d + 3) 285 [.ref 318, .int (nI c)] (K, I, L, R, n, s) Q := by
  obtain ⟨-, -, hn⟩ := id hT
  refine Ok.enter (F := F_285) (ls := [.ref 318, .int (nI c), lDead, lDead]) rfl rfl ?_
  refine wp_iconst (v := nI 0) (pc' := 1) rfl rfl rfl ?_
  refine wp_istore2 (pc' := 2) rfl (by first | rfl | assumption) rfl ?_
  refine wp_iconst (v := nI 0) (pc' := 3) rfl rfl rfl ?_
  refine wp_istore3 (pc' := 4) rfl (by first | rfl | assumption) rfl ?_
  have lp4 : ∀ r (i : Nat), i + r = H → WP (d + 2) F_285 4 [.ref 318, .int (nI c), .int (forN (fun h f => if hasP ((Sv (I 319)) 9 h) c then f ||| jshl (nI 1) (nI h) else f) (nI 0) i), .int (nI i)] [] (K, I, L, R, n, s) Q := by
    intro r; induction r with
    | zero =>
      intro i hi 
      have hi2 : i = H := by omega
      subst hi2
      refine wp_iload3 (pc' := 5) rfl rfl ?_
      refine wp_aload0 (pc' := 6) rfl rfl ?_
      refine wp_callV1 (pc' := 9) rfl rfl rfl rfl rfl (by first | exact TK.k1 hT rfl | exact TK.kk hT rfl | exact TK.r hT rfl | assumption) rfl rfl ?_
      refine m_hearths hT hw ?_
      refine Cont.v ?_
      refine wp_icmpgeT rfl (nI_nlt (by omega) (by omega)) ?_
      refine wp_iload2 (pc' := 42) rfl rfl ?_
      refine wp_iret rfl rfl rfl ?_
      exact kk
    | succ r ih =>
      intro i hi 
      have hlt : i < H := by omega
      have hs9 : Sv (I 319) 9 i = I 319 (159 + 4 * i + 3) := Sv_9 (by omega)
      refine wp_iload3 (pc' := 5) rfl rfl ?_
      refine wp_aload0 (pc' := 6) rfl rfl ?_
      refine wp_callV1 (pc' := 9) rfl rfl rfl rfl rfl (by first | exact TK.k1 hT rfl | exact TK.kk hT rfl | exact TK.r hT rfl | assumption) rfl rfl ?_
      refine m_hearths hT hw ?_
      refine Cont.v ?_
      refine wp_icmpgeF (pc' := 12) rfl (nI_lt (by omega) (by omega)) rfl ?_
      refine wp_iload2 (pc' := 13) rfl rfl ?_
      refine wp_aload0 (pc' := 14) rfl rfl ?_
      refine wp_iload3 (pc' := 15) rfl rfl ?_
      refine wp_iconst (v := nI 3) (pc' := 16) rfl rfl rfl ?_
      refine wp_callV3 (pc' := 19) rfl rfl rfl rfl rfl (by first | exact TK.k1 hT rfl | exact TK.kk hT rfl | exact TK.r hT rfl | assumption) rfl rfl ?_
      refine m_ofH hT (by omega) (by decide) ?_
      refine Cont.v ?_
      refine wp_iload1 (pc' := 20) rfl rfl ?_
      refine wp_callS2 (pc' := 23) rfl rfl rfl rfl rfl rfl ?_
      refine m_has ?_
      refine Cont.v ?_
      first | refine wp_ifeqB (pc' := 26) rfl rfl ?_ ?_ | refine wp_ifeq (pc' := 26) rfl rfl ?_ ?_
      · intro h23
        refine wp_iconst (v := nI 0) (pc' := 33) rfl rfl rfl ?_
        refine wp_ior (pc' := 34) rfl rfl ?_
        refine wp_istore2 (pc' := 35) rfl (by first | rfl | assumption) rfl ?_
        first | refine wp_iinc3 (w := nI 1) (pc' := 38) rfl rfl rfl (by with_reducible exact nI_add _ _) rfl ?_ | refine wp_iinc3 (w := nI 1) (pc' := 38) rfl rfl rfl rfl rfl ?_
        refine wp_goto rfl ?_
        exact WP.cg (ih (i + 1) (by omega)) (lC1 (lI1 (by first | with_reducible rfl | rw [forN, if_pos (show hasP (Sv (I 319) 9 i) c by rw [hs9]; exact h23)] | rw [forN, if_neg (show ¬ hasP (Sv (I 319) 9 i) c by rw [hs9]; exact h23), or_n0]) (lI1 (by first | with_reducible rfl | rw [forN, if_pos (show hasP (Sv (I 319) 9 i) c by rw [hs9]; exact h23)] | rw [forN, if_neg (show ¬ hasP (Sv (I 319) 9 i) c by rw [hs9]; exact h23), or_n0]) (lI1 (by first | with_reducible rfl | rw [forN, if_pos (show hasP (Sv (I 319) 9 i) c by rw [hs9]; exact h23)] | rw [forN, if_neg (show ¬ hasP (Sv (I 319) 9 i) c by rw [hs9]; exact h23), or_n0]) rfl)))) rfl (by first | with_reducible rfl | (simp only [forN, *, ↓reduceIte, not_true_eq_false, not_false_eq_true, and_self, and_true, true_and, and_false, false_and]; done) | rfl | (simp_all [forN]; done))
      · intro h23
        refine wp_iconst (v := nI 1) (pc' := 27) rfl rfl rfl ?_
        refine wp_iload3 (pc' := 28) rfl rfl ?_
        refine wp_ishl (pc' := 29) rfl rfl ?_
        refine wp_goto rfl ?_
        refine wp_ior (pc' := 34) rfl rfl ?_
        refine wp_istore2 (pc' := 35) rfl (by first | rfl | assumption) rfl ?_
        first | refine wp_iinc3 (w := nI 1) (pc' := 38) rfl rfl rfl (by with_reducible exact nI_add _ _) rfl ?_ | refine wp_iinc3 (w := nI 1) (pc' := 38) rfl rfl rfl rfl rfl ?_
        refine wp_goto rfl ?_
        exact WP.cg (ih (i + 1) (by omega)) (lC1 (lI1 (by first | with_reducible rfl | rw [forN, if_pos (show hasP (Sv (I 319) 9 i) c by rw [hs9]; exact h23)] | rw [forN, if_neg (show ¬ hasP (Sv (I 319) 9 i) c by rw [hs9]; exact h23), or_n0]) (lI1 (by first | with_reducible rfl | rw [forN, if_pos (show hasP (Sv (I 319) 9 i) c by rw [hs9]; exact h23)] | rw [forN, if_neg (show ¬ hasP (Sv (I 319) 9 i) c by rw [hs9]; exact h23), or_n0]) (lI1 (by first | with_reducible rfl | rw [forN, if_pos (show hasP (Sv (I 319) 9 i) c by rw [hs9]; exact h23)] | rw [forN, if_neg (show ¬ hasP (Sv (I 319) 9 i) c by rw [hs9]; exact h23), or_n0]) rfl)))) rfl (by first | with_reducible rfl | (simp only [forN, *, ↓reduceIte, not_true_eq_false, not_false_eq_true, and_self, and_true, true_and, and_false, false_and]; done) | rfl | (simp_all [forN]; done))
  exact WP.cg (lp4 (H - (0)) (0) (by omega)) (lC1 (lI1 (by rfl) (lI1 (by rfl) (lI1 (by rfl) rfl)))) rfl (by first | with_reducible rfl | (simp only [forN, *, ↓reduceIte, not_true_eq_false, not_false_eq_true, and_self, and_true, true_and, and_false, false_and]; done) | rfl | (simp_all [forN]; done))
theorem m_lacksOf {d : Nat} {K : Nat → Nat × Nat} {I : Nat → Nat → Int32} {L : Nat → Nat → Int64} {R : Nat → Nat → Option Nat} {n s : Nat} {Q : Lo → Lm → Prop} {h : Nat} (hT : TK K R n) (hh : h < 6) (kk : Q (.inl (some (.int (lackS (Sv (I 319)) h)))) (K, I, L, R, n, s)) : Ok (d + 3) 288 [.ref 318, .int (nI h)] (K, I, L, R, n, s) Q := by
  obtain ⟨-, -, hn⟩ := id hT
  refine Ok.enter (F := F_288) (ls := [.ref 318, .int (nI h)]) rfl rfl ?_
  refine wp_iconst (v := nI 0) (pc' := 1) rfl rfl rfl ?_
  refine wp_aload0 (pc' := 2) rfl rfl ?_
  refine wp_iload1 (pc' := 3) rfl rfl ?_
  refine wp_iconst (v := nI 1) (pc' := 4) rfl rfl rfl ?_
  refine wp_callV3 (pc' := 7) rfl rfl rfl rfl rfl (by first | exact TK.k1 hT rfl | exact TK.kk hT rfl | exact TK.r hT rfl | assumption) rfl rfl ?_
  refine m_ofH hT (by omega) (by decide) ?_
  refine Cont.v ?_
  refine wp_aload0 (pc' := 8) rfl rfl ?_
  refine wp_iload1 (pc' := 9) rfl rfl ?_
  refine wp_iconst (v := nI 2) (pc' := 10) rfl rfl rfl ?_
  refine wp_callV3 (pc' := 13) rfl rfl rfl rfl rfl (by first | exact TK.k1 hT rfl | exact TK.kk hT rfl | exact TK.r hT rfl | assumption) rfl rfl ?_
  refine m_ofH hT (by omega) (by decide) ?_
  refine Cont.v ?_
  first | refine wp_isubN (pc' := 14) rfl (by with_reducible rfl) (by with_reducible rfl) (by omega) rfl ?_ | refine wp_isub (pc' := 14) rfl rfl ?_
  refine wp_max (pc' := 17) rfl rfl rfl rfl ?_
  refine wp_iret rfl rfl rfl ?_
  exact Qv kk (by unfold lackS; rw [Sv_7 hh, Sv_8 hh, jmax_comm0]) rfl
theorem m_storesOfAll {d : Nat} {K : Nat → Nat × Nat} {I : Nat → Nat → Int32} {L : Nat → Nat → Int64} {R : Nat → Nat → Option Nat} {n s : Nat} {Q : Lo → Lm → Prop} {H : Nat} (hT : TK K R n) (hw : I 319 0 = nI H) (hH6 : H ≤ 6) (kk : Q (.inl (some (.int (sumN ((Sv (I 319)) 8) H)))) (K, I, L, R, n, s)) : Ok (d + 3) 289 [.ref 318] (K, I, L, R, n, s) Q := by
  obtain ⟨-, -, hn⟩ := id hT
  refine Ok.enter (F := F_289) (ls := [.ref 318, lDead, lDead]) rfl rfl ?_
  refine wp_iconst (v := nI 0) (pc' := 1) rfl rfl rfl ?_
  refine wp_istore1 (pc' := 2) rfl (by first | rfl | assumption) rfl ?_
  refine wp_iconst (v := nI 0) (pc' := 3) rfl rfl rfl ?_
  refine wp_istore2 (pc' := 4) rfl (by first | rfl | assumption) rfl ?_
  have lp4 : ∀ r (i : Nat), i + r = H → WP (d + 2) F_289 4 [.ref 318, .int (sumN ((Sv (I 319)) 8) i), .int (nI i)] [] (K, I, L, R, n, s) Q := by
    intro r; induction r with
    | zero =>
      intro i hi 
      have hi2 : i = H := by omega
      subst hi2
      refine wp_iload2 (pc' := 5) rfl rfl ?_
      refine wp_aload0 (pc' := 6) rfl rfl ?_
      refine wp_callV1 (pc' := 9) rfl rfl rfl rfl rfl (by first | exact TK.k1 hT rfl | exact TK.kk hT rfl | exact TK.r hT rfl | assumption) rfl rfl ?_
      refine m_hearths hT hw ?_
      refine Cont.v ?_
      refine wp_icmpgeT rfl (nI_nlt (by omega) (by omega)) ?_
      refine wp_iload1 (pc' := 28) rfl rfl ?_
      refine wp_iret rfl rfl rfl ?_
      exact kk
    | succ r ih =>
      intro i hi 
      have hlt : i < H := by omega
      have hs8 : Sv (I 319) 8 i = I 319 (159 + 4 * i + 2) := Sv_8 (by omega)
      refine wp_iload2 (pc' := 5) rfl rfl ?_
      refine wp_aload0 (pc' := 6) rfl rfl ?_
      refine wp_callV1 (pc' := 9) rfl rfl rfl rfl rfl (by first | exact TK.k1 hT rfl | exact TK.kk hT rfl | exact TK.r hT rfl | assumption) rfl rfl ?_
      refine m_hearths hT hw ?_
      refine Cont.v ?_
      refine wp_icmpgeF (pc' := 12) rfl (nI_lt (by omega) (by omega)) rfl ?_
      refine wp_iload1 (pc' := 13) rfl rfl ?_
      refine wp_aload0 (pc' := 14) rfl rfl ?_
      refine wp_iload2 (pc' := 15) rfl rfl ?_
      refine wp_iconst (v := nI 2) (pc' := 16) rfl rfl rfl ?_
      refine wp_callV3 (pc' := 19) rfl rfl rfl rfl rfl (by first | exact TK.k1 hT rfl | exact TK.kk hT rfl | exact TK.r hT rfl | assumption) rfl rfl ?_
      refine m_ofH hT (by omega) (by decide) ?_
      refine Cont.v ?_
      first | refine wp_iaddN (pc' := 20) rfl (by with_reducible rfl) (by with_reducible rfl) rfl ?_ | refine wp_iadd (pc' := 20) rfl rfl ?_
      refine wp_istore1 (pc' := 21) rfl (by first | rfl | assumption) rfl ?_
      first | refine wp_iinc2 (w := nI 1) (pc' := 24) rfl rfl rfl (by with_reducible exact nI_add _ _) rfl ?_ | refine wp_iinc2 (w := nI 1) (pc' := 24) rfl rfl rfl rfl rfl ?_
      refine wp_goto rfl ?_
      exact WP.cg (ih (i + 1) (by omega)) (lC1 (lI1 (by first | with_reducible rfl | (show _ = sumN _ i + _; rw [hs8])) (lI1 (by first | with_reducible rfl | (show _ = sumN _ i + _; rw [hs8])) rfl))) rfl (by first | with_reducible rfl | (simp only [forN, *, ↓reduceIte, not_true_eq_false, not_false_eq_true, and_self, and_true, true_and, and_false, false_and]; done) | rfl | (simp_all [forN]; done))
  exact WP.cg (lp4 (H - (0)) (0) (by omega)) (lC1 (lI1 (by rfl) (lI1 (by rfl) rfl))) rfl (by first | with_reducible rfl | (simp only [forN, *, ↓reduceIte, not_true_eq_false, not_false_eq_true, and_self, and_true, true_and, and_false, false_and]; done) | rfl | (simp_all [forN]; done))
