/-! HOW WATER FALLS -/
theorem nI_min {a b : Nat} (ha : a < 2 ^ 31) (hb : b < 2 ^ 31) : jmin (nI a) (nI b) = nI (min a b) := by
  unfold jmin
  by_cases h : b < a
  · rw [if_pos (nI_lt h ha), Nat.min_eq_right (by omega)]
  · rw [if_neg (nI_nlt (by omega) (by omega)), Nat.min_eq_left (by omega)]
def fitE (tv : Nat → Nat) (k i : Nat) : Int32 := jmax (nI (k / 200) - nI (tv (2 * i) / (k / 10 % 20 + 1))) (nI (min (k % 10) (k / 200)))
def fitB (tv : Nat → Nat) (k : Nat) : Nat → Bool
  | 0 => true
  | i + 1 => fitB tv k i && decide (fitE tv k i = nI (tv (2 * i + 1)))
theorem fitB_f {tv : Nat → Nat} {k i : Nat} (h : ¬ fitE tv k i = nI (tv (2 * i + 1))) : ∀ {m : Nat}, i + 1 ≤ m → fitB tv k m = false := by
  intro m hm
  induction m with
  | zero => omega
  | succ m ih =>
    show (fitB tv k m && _) = false
    by_cases e : i = m
    · subst e; rw [decide_eq_false h, Bool.and_false]
    · rw [ih (by omega)]; rfl
theorem fitB_t {tv : Nat → Nat} {k i : Nat} (h0 : fitB tv k i = true) (h : fitE tv k i = nI (tv (2 * i + 1))) : fitB tv k (i + 1) = true := by
  show (fitB tv k i && _) = true
  rw [h0, decide_eq_true h]; rfl
def fcnt (tv : Nat → Nat) (r i : Nat) : Int32 := forN (fun k f => if fitB tv k r = true then f + nI 1 else f) (nI 0) i
def chgM (I N : Mem) : Mem := fun a => if 71 ≤ a ∧ a < 171 then N (a - 71) else I a
theorem chg_at {I N : Mem} {j : Nat} (h : j < 100) : chgM I N (71 + j) = N j := by
  unfold chgM; rw [if_pos ⟨by omega, by omega⟩]; congr 1; omega
theorem chg_out {I N : Mem} {a : Nat} (h : a < 71 ∨ 171 ≤ a) : chgM I N a = I a := by
  unfold chgM; rw [if_neg (by omega)]
theorem chg_upr {I N : Mem} {j : Nat} {g : Nat → Int32} (h : j < 100) : upr (chgM I N) (71 + j) g = chgM I (upr N j g) := by
  funext a
  by_cases ha : 71 ≤ a ∧ a < 171
  · by_cases e : a = 71 + j
    · subst e; rw [upr_same, chg_at h, upr_same]
    · rw [upr_ne e]; unfold chgM; rw [if_pos ha, if_pos ha, upr_ne (by omega)]
  · rw [upr_ne (by omega)]; unfold chgM; rw [if_neg ha, if_neg ha]
theorem up2_as {f : Mem} {a c : Nat} {v : Int32} : up2 f a c v = upr f a (up1 (f a) c v) := by
  funext i k; unfold up2 upr up1
  by_cases h1 : i = a
  · subst h1
    by_cases h2 : k = c
    · rw [if_pos ⟨rfl, h2⟩, if_pos rfl, if_pos h2]
    · rw [if_neg (fun q => h2 q.2), if_pos rfl, if_neg h2]
  · rw [if_neg (fun q => h1 q.1), if_neg h1]
theorem chg_up2 {I N : Mem} {j c : Nat} {v : Int32} (h : j < 100) : up2 (chgM I N) (71 + j) c v = chgM I (up2 N j c v) := by
  rw [up2_as, up2_as, chg_upr h, chg_at h]
theorem chg_id {I : Mem} : chgM I (fun j => I (71 + j)) = I := by
  funext a; unfold chgM
  by_cases h : 71 ≤ a ∧ a < 171
  · rw [if_pos h]; show I (71 + (a - 71)) = _; congr 1; omega
  · rw [if_neg h]
theorem TK.chg {K : Nat → Nat × Nat} {R : Nat → Nat → Option Nat} {n j : Nat} (h : TK K R n) (hj : j < 100) : R 70 j = some (71 + j) := by
  refine h.2.1 _ _ _ ?_
  show (bif Nat.blt j 100 then some (71 + j) else none) = _
  rw [Nat.blt_eq.mpr hj]; rfl
theorem TK.chgk {K : Nat → Nat × Nat} {R : Nat → Nat → Option Nat} {n j : Nat} (h : TK K R n) (hj : j < 100) : K (71 + j) = (50, 10) := by
  refine h.1 _ _ ?_
  unfold k0
  rw [blt_f (show 37 ≤ 71 + j by omega), blt_f (show 50 ≤ 71 + j by omega), blt_f (show 66 ≤ 71 + j by omega), blt_f (show 71 ≤ 71 + j by omega), show Nat.blt (71 + j) 171 = true from Nat.blt_eq.mpr (by omega)]; rfl
/-- one unit goes from a level to the next lower one, day by day -/
def ncL (l p : Nat) : Nat → Nat → Mem → Mem
  | 0, _, M => M
  | v + 1, e, M => if e < 100 ∧ l < v + 1 then ncL l p v (e + p) (up2 (up2 M e (v + 1) (M e (v + 1) - nI 1)) e v (up2 M e (v + 1) (M e (v + 1) - nI 1) e v + nI 1)) else M
def ncN (k : Nat) (N : Mem) : Mem := ncL (min (k % 10) (k / 200)) (k / 10 % 20 + 1) (k / 200) (k / 10 % 20 + 1) (up2 N 0 (k / 200) (N 0 (k / 200) + nI 1))
def zrN (N : Mem) (i : Nat) : Mem := forN (fun j M => upr M j (fillR 10 (nI 0) (M j))) N i
def bdS (tv : Nat → Nat) (r k : Nat) (p : Mem × Int32) : Mem × Int32 := if fitB tv k r = true then (ncN k p.1, p.2 + nI 1) else p
def bdF (tv : Nat → Nat) (r : Nat) (N : Mem) (i : Nat) : Mem × Int32 := forN (fun k p => bdS tv r k p) (N, nI 0) i
def lgI (N : Mem) (e : Nat) (P : Nat → Int32) (i : Nat) : (Nat → Int32) × Int32 := forN (fun l p => (up1 p.1 l (p.1 l + N e l), jmax p.2 (p.1 l + N e l))) (P, nI 0) i
def lgS (N : Mem) (e : Nat) (p : (Nat → Int32) × Int32 × Int32) : (Nat → Int32) × Int32 × Int32 := ((lgI N e p.1 10).1, if (lgI N e p.1 10).2 < p.2.1 then ((lgI N e p.1 10).2, nI e) else p.2)
def lgF (N : Mem) (P : Nat → Int32) (i : Nat) : (Nat → Int32) × Int32 × Int32 := forN (fun e p => lgS N e p) (P, nI 2001, -1) i

theorem c_ffirst {d : Nat} {K : Nat → Nat × Nat} {I : Nat → Nat → Int32} {L : Nat → Nat → Int64} {R : Nat → Nat → Option Nat} {n s : Nat} {Q : Lo → Lm → Prop} {k : Nat} (hk : k < 2000) (kk : Q (.inl (some (.int (nI (k / 200))))) (K, I, L, R, n, s)) : Ok (d + 1) 167 [.int (nI k)] (K, I, L, R, n, s) Q := by
  refine Ok.enter (F := F_167) (ls := [.int (nI k)]) rfl rfl ?_
  refine wp_iload0 (pc' := 1) rfl rfl ?_
  refine wp_sipush (v := nI 200) (pc' := 4) rfl rfl rfl ?_
  first | refine wp_idivN (pc' := 5) rfl (by with_reducible rfl) (by with_reducible rfl) (by omega) (by omega) (by omega) rfl ?_ | refine wp_idiv (pc' := 5) rfl (by decide) rfl ?_
  refine wp_iret rfl rfl rfl ?_
  exact kk
theorem c_fpace {d : Nat} {K : Nat → Nat × Nat} {I : Nat → Nat → Int32} {L : Nat → Nat → Int64} {R : Nat → Nat → Option Nat} {n s : Nat} {Q : Lo → Lm → Prop} {k : Nat} (hk : k < 2000) (kk : Q (.inl (some (.int (nI (k / 10 % 20 + 1))))) (K, I, L, R, n, s)) : Ok (d + 1) 168 [.int (nI k)] (K, I, L, R, n, s) Q := by
  refine Ok.enter (F := F_168) (ls := [.int (nI k)]) rfl rfl ?_
  refine wp_iload0 (pc' := 1) rfl rfl ?_
  refine wp_bipush (v := nI 10) (pc' := 3) rfl rfl rfl ?_
  first | refine wp_idivN (pc' := 4) rfl (by with_reducible rfl) (by with_reducible rfl) (by omega) (by omega) (by omega) rfl ?_ | refine wp_idiv (pc' := 4) rfl (by decide) rfl ?_
  refine wp_bipush (v := nI 20) (pc' := 6) rfl rfl rfl ?_
  first | refine wp_iremN (pc' := 7) rfl (by with_reducible rfl) (by with_reducible rfl) (by omega) (by omega) (by omega) rfl ?_ | refine wp_irem (pc' := 7) rfl (by decide) rfl ?_
  refine wp_iconst (v := nI 1) (pc' := 8) rfl rfl rfl ?_
  first | refine wp_iaddN (pc' := 9) rfl (by with_reducible rfl) (by with_reducible rfl) rfl ?_ | refine wp_iadd (pc' := 9) rfl rfl ?_
  refine wp_iret rfl rfl rfl ?_
  exact kk
theorem c_fleast {d : Nat} {K : Nat → Nat × Nat} {I : Nat → Nat → Int32} {L : Nat → Nat → Int64} {R : Nat → Nat → Option Nat} {n s : Nat} {Q : Lo → Lm → Prop} {k : Nat} (hk : k < 2000) (kk : Q (.inl (some (.int (nI (min (k % 10) (k / 200)))))) (K, I, L, R, n, s)) : Ok (d + 1) 169 [.int (nI k)] (K, I, L, R, n, s) Q := by
  refine Ok.enter (F := F_169) (ls := [.int (nI k)]) rfl rfl ?_
  refine wp_iload0 (pc' := 1) rfl rfl ?_
  refine wp_bipush (v := nI 10) (pc' := 3) rfl rfl rfl ?_
  first | refine wp_iremN (pc' := 4) rfl (by with_reducible rfl) (by with_reducible rfl) (by omega) (by omega) (by omega) rfl ?_ | refine wp_irem (pc' := 4) rfl (by decide) rfl ?_
  refine wp_iload0 (pc' := 5) rfl rfl ?_
  refine wp_sipush (v := nI 200) (pc' := 8) rfl rfl rfl ?_
  first | refine wp_idivN (pc' := 9) rfl (by with_reducible rfl) (by with_reducible rfl) (by omega) (by omega) (by omega) rfl ?_ | refine wp_idiv (pc' := 9) rfl (by decide) rfl ?_
  refine wp_min (pc' := 12) rfl rfl rfl rfl ?_
  refine wp_iret rfl rfl rfl ?_
  exact Qv kk (nI_min (by omega) (by omega)) rfl
theorem c_fits {d : Nat} {K : Nat → Nat × Nat} {I : Nat → Nat → Int32} {L : Nat → Nat → Int64} {R : Nat → Nat → Option Nat} {n s : Nat} {Q : Lo → Lm → Prop} {k m : Nat} {tv : Nat → Nat} (hT : TK K R n) (hk : k < 2000) (htv : ∀ j, j < 400 → I 38 j = nI (tv j)) (htl : ∀ j, j < 400 → tv j < 256) (hm : m ≤ 20) (kk : Q (.inl (some (.int (if fitB tv k m = true then nI 1 else nI 0)))) (K, I, L, R, n, s)) : Ok (d + 2) 166 [.ref 69, .int (nI k), .int (nI m)] (K, I, L, R, n, s) Q := by
  obtain ⟨-, -, hn⟩ := id hT
  refine Ok.enter (F := F_166) (ls := [.ref 69, .int (nI k), .int (nI m), lDead, lDead]) rfl rfl ?_
  refine wp_iconst (v := nI 0) (pc' := 1) rfl rfl rfl ?_
  refine wp_istore3 (pc' := 2) rfl (by first | rfl | assumption) rfl ?_
  have lp2 : ∀ r (i : Nat) (v4 : Value), i + r = m → fitB tv k i = true → isL v4 = false → WP (d + 1) F_166 2 [.ref 69, .int (nI k), .int (nI m), .int (nI i), v4] [] (K, I, L, R, n, s) Q := by
    intro r; induction r with
    | zero =>
      intro i v4 hi hv0 hv1
      have hi2 : i = m := by omega
      subst hi2
      refine wp_iload3 (pc' := 3) rfl rfl ?_
      refine wp_iload2 (pc' := 4) rfl rfl ?_
      refine wp_icmpgeT rfl (nI_nlt (by omega) (by omega)) ?_
      refine wp_iconst (v := nI 1) (pc' := 58) rfl rfl rfl ?_
      refine wp_iret rfl rfl (by first | rfl | exact nar_if) ?_
      exact Qv kk (by rw [if_pos hv0]) rfl
    | succ r ih =>
      intro i v4 hi hv0 hv1
      have hlt : i < m := by omega
      refine wp_iload3 (pc' := 3) rfl rfl ?_
      refine wp_iload2 (pc' := 4) rfl rfl ?_
      refine wp_icmpgeF (pc' := 7) rfl (nI_lt (by omega) (by omega)) rfl ?_
      refine wp_iload1 (pc' := 8) rfl rfl ?_
      refine wp_callS1 (pc' := 11) rfl rfl rfl rfl rfl rfl ?_
      refine c_ffirst (by omega) ?_
      refine Cont.v ?_
      refine wp_aload0 (pc' := 12) rfl rfl ?_
      refine wp_getRF (pc' := 15) rfl rfl (by first | exact TK.k1 hT rfl | exact TK.kk hT rfl | exact TK.r hT rfl | assumption) (by first | exact TK.k1 hT rfl | exact TK.kk hT rfl | exact TK.r hT rfl | assumption) rfl ?_
      refine wp_iconst (v := nI 2) (pc' := 16) rfl rfl rfl ?_
      refine wp_iload3 (pc' := 17) rfl rfl ?_
      first | refine wp_imulN (pc' := 18) rfl (by with_reducible rfl) (by with_reducible rfl) rfl ?_ | refine wp_imul (pc' := 18) rfl rfl ?_
      refine wp_iald _ (pc' := 19) rfl (by first | exact TK.k1 hT rfl | exact TK.kk hT rfl | exact TK.r hT rfl | assumption) (by with_reducible rfl) (by omega) (by first | decide | assumption | omega) rfl ?_
      rw [htv _ (by omega)]
      have ht2 := htl (2 * i) (by omega)
      refine wp_iload1 (pc' := 20) rfl rfl ?_
      refine wp_callS1 (pc' := 23) rfl rfl rfl rfl rfl rfl ?_
      refine c_fpace (by omega) ?_
      refine Cont.v ?_
      first | refine wp_idivN (pc' := 24) rfl (by with_reducible rfl) (by with_reducible rfl) (by omega) (by omega) (by omega) rfl ?_ | refine wp_idiv (pc' := 24) rfl (by decide) rfl ?_
      first | refine wp_isubN (pc' := 25) rfl (by with_reducible rfl) (by with_reducible rfl) (by omega) rfl ?_ | refine wp_isub (pc' := 25) rfl rfl ?_
      refine wp_istore4 (pc' := 27) rfl (by first | rfl | assumption) rfl ?_
      refine wp_iload4 (pc' := 29) rfl rfl ?_
      refine wp_iload1 (pc' := 30) rfl rfl ?_
      refine wp_callS1 (pc' := 33) rfl rfl rfl rfl rfl rfl ?_
      refine c_fleast (by omega) ?_
      refine Cont.v ?_
      refine wp_max (pc' := 36) rfl rfl rfl rfl ?_
      refine wp_aload0 (pc' := 37) rfl rfl ?_
      refine wp_getRF (pc' := 40) rfl rfl (by first | exact TK.k1 hT rfl | exact TK.kk hT rfl | exact TK.r hT rfl | assumption) (by first | exact TK.k1 hT rfl | exact TK.kk hT rfl | exact TK.r hT rfl | assumption) rfl ?_
      refine wp_iconst (v := nI 2) (pc' := 41) rfl rfl rfl ?_
      refine wp_iload3 (pc' := 42) rfl rfl ?_
      first | refine wp_imulN (pc' := 43) rfl (by with_reducible rfl) (by with_reducible rfl) rfl ?_ | refine wp_imul (pc' := 43) rfl rfl ?_
      refine wp_iconst (v := nI 1) (pc' := 44) rfl rfl rfl ?_
      first | refine wp_iaddN (pc' := 45) rfl (by with_reducible rfl) (by with_reducible rfl) rfl ?_ | refine wp_iadd (pc' := 45) rfl rfl ?_
      refine wp_iald _ (pc' := 46) rfl (by first | exact TK.k1 hT rfl | exact TK.kk hT rfl | exact TK.r hT rfl | assumption) (by with_reducible rfl) (by omega) (by first | decide | assumption | omega) rfl ?_
      rw [htv _ (by omega)]
      refine wp_icmpeq (pc' := 49) rfl rfl ?_ ?_
      · intro h46
        first | refine wp_iinc3 (w := nI 1) (pc' := 54) rfl rfl rfl (by with_reducible exact nI_add _ _) rfl ?_ | refine wp_iinc3 (w := nI 1) (pc' := 54) rfl rfl rfl rfl rfl ?_
        refine wp_goto rfl ?_
        exact WP.cg (ih (i + 1) _ (by omega) (fitB_t hv0 h46) (by first | rfl | assumption)) (lC1 (lI1 (by rfl) (lI1 (by rfl) (lI1 (by rfl) (lC1 rfl))))) rfl (by first | with_reducible rfl | (simp only [forN, *, ↓reduceIte, not_true_eq_false, not_false_eq_true, and_self, and_true, true_and, and_false, false_and]; done) | rfl | (simp_all [forN]; done))
      · intro h46
        refine wp_iconst (v := nI 0) (pc' := 50) rfl rfl rfl ?_
        refine wp_iret rfl rfl (by first | rfl | exact nar_if) ?_
        exact Qv kk (by rw [if_neg (Bool.eq_false_iff.mp (fitB_f (i := i) h46 (by omega)))]) rfl
  exact WP.cg (lp2 (m - (0)) (0) _ (by omega) rfl (by first | rfl | assumption)) (lC1 (lI1 (by rfl) (lI1 (by rfl) (lI1 (by rfl) (lC1 rfl))))) rfl (by first | with_reducible rfl | (simp only [forN, *, ↓reduceIte, not_true_eq_false, not_false_eq_true, and_self, and_true, true_and, and_false, false_and]; done) | rfl | (simp_all [forN]; done))
theorem c_firstFit {d : Nat} {K : Nat → Nat × Nat} {I : Nat → Nat → Int32} {L : Nat → Nat → Int64} {R : Nat → Nat → Option Nat} {n s : Nat} {Q : Lo → Lm → Prop} {m : Nat} {tv : Nat → Nat} (hT : TK K R n) (htv : ∀ j, j < 400 → I 38 j = nI (tv j)) (htl : ∀ j, j < 400 → tv j < 256) (hm : m ≤ 20) (kk : Q (.inl (some (.int (ffrom (fun k => fitB tv k m = true) 2000 0)))) (K, I, L, R, n, s)) : Ok (d + 3) 165 [.ref 69, .int (nI m)] (K, I, L, R, n, s) Q := by
  obtain ⟨-, -, hn⟩ := id hT
  refine Ok.enter (F := F_165) (ls := [.ref 69, .int (nI m), lDead]) rfl rfl ?_
  refine wp_iconst (v := nI 0) (pc' := 1) rfl rfl rfl ?_
  refine wp_istore2 (pc' := 2) rfl (by first | rfl | assumption) rfl ?_
  have lp2 : ∀ r (i : Nat), i + r = 2000 → ffrom (fun k => fitB tv k m = true) r i = ffrom (fun k => fitB tv k m = true) 2000 0 → WP (d + 2) F_165 2 [.ref 69, .int (nI m), .int (nI i)] [] (K, I, L, R, n, s) Q := by
    intro r; induction r with
    | zero =>
      intro i hi hv0
      have hi2 : i = 2000 := by omega
      subst hi2
      refine wp_iload2 (pc' := 3) rfl rfl ?_
      refine wp_sipush (v := nI 2000) (pc' := 6) rfl rfl rfl ?_
      refine wp_icmpgeT rfl (nI_nlt (by omega) (by omega)) ?_
      refine wp_iconst (v := (-1)) (pc' := 27) rfl rfl rfl ?_
      refine wp_iret rfl rfl rfl ?_
      exact Qv kk hv0 rfl
    | succ r ih =>
      intro i hi hv0
      have hlt : i < 2000 := by omega
      refine wp_iload2 (pc' := 3) rfl rfl ?_
      refine wp_sipush (v := nI 2000) (pc' := 6) rfl rfl rfl ?_
      refine wp_icmpgeF (pc' := 9) rfl (nI_lt (by omega) (by omega)) rfl ?_
      refine wp_aload0 (pc' := 10) rfl rfl ?_
      refine wp_iload2 (pc' := 11) rfl rfl ?_
      refine wp_iload1 (pc' := 12) rfl rfl ?_
      refine wp_callV3 (pc' := 15) rfl rfl rfl rfl rfl (by first | exact TK.k1 hT rfl | exact TK.kk hT rfl | exact TK.r hT rfl | assumption) rfl rfl ?_
      refine c_fits hT (by omega) htv htl hm ?_
      refine Cont.v ?_
      first | refine wp_ifeqB (pc' := 18) rfl rfl ?_ ?_ | refine wp_ifeq (pc' := 18) rfl rfl ?_ ?_
      · intro h15
        first | refine wp_iinc2 (w := nI 1) (pc' := 23) rfl rfl rfl (by with_reducible exact nI_add _ _) rfl ?_ | refine wp_iinc2 (w := nI 1) (pc' := 23) rfl rfl rfl rfl rfl ?_
        refine wp_goto rfl ?_
        exact WP.cg (ih (i + 1) (by omega) (by rw [ffrom, if_neg (by first | assumption)] at hv0; exact hv0)) (lC1 (lI1 (by rfl) (lI1 (by rfl) rfl))) rfl (by first | with_reducible rfl | (simp only [forN, *, ↓reduceIte, not_true_eq_false, not_false_eq_true, and_self, and_true, true_and, and_false, false_and]; done) | rfl | (simp_all [forN]; done))
      · intro h15
        refine wp_iload2 (pc' := 19) rfl rfl ?_
        refine wp_iret rfl rfl rfl ?_
        exact Qv kk (by rw [ffrom, if_pos (by first | assumption)] at hv0; exact hv0) rfl
  exact WP.cg (lp2 (2000 - (0)) (0) (by omega) rfl) (lC1 (lI1 (by rfl) (lI1 (by rfl) rfl))) rfl (by first | with_reducible rfl | (simp only [forN, *, ↓reduceIte, not_true_eq_false, not_false_eq_true, and_self, and_true, true_and, and_false, false_and]; done) | rfl | (simp_all [forN]; done))
theorem c_fcount {d : Nat} {K : Nat → Nat × Nat} {I : Nat → Nat → Int32} {L : Nat → Nat → Int64} {R : Nat → Nat → Option Nat} {n s : Nat} {Q : Lo → Lm → Prop} {m : Nat} {tv : Nat → Nat} (hT : TK K R n) (htv : ∀ j, j < 400 → I 38 j = nI (tv j)) (htl : ∀ j, j < 400 → tv j < 256) (hm : m ≤ 20) (kk : Q (.inl (some (.int (fcnt tv m 2000)))) (K, I, L, R, n, s)) : Ok (d + 3) 170 [.ref 69, .int (nI m)] (K, I, L, R, n, s) Q := by
  obtain ⟨-, -, hn⟩ := id hT
  refine Ok.enter (F := F_170) (ls := [.ref 69, .int (nI m), lDead, lDead]) rfl rfl ?_
  refine wp_iconst (v := nI 0) (pc' := 1) rfl rfl rfl ?_
  refine wp_istore2 (pc' := 2) rfl (by first | rfl | assumption) rfl ?_
  refine wp_iconst (v := nI 0) (pc' := 3) rfl rfl rfl ?_
  refine wp_istore3 (pc' := 4) rfl (by first | rfl | assumption) rfl ?_
  have lp4 : ∀ r (i : Nat), i + r = 2000 → WP (d + 2) F_170 4 [.ref 69, .int (nI m), .int (fcnt tv m i), .int (nI i)] [] (K, I, L, R, n, s) Q := by
    intro r; induction r with
    | zero =>
      intro i hi 
      have hi2 : i = 2000 := by omega
      subst hi2
      refine wp_iload3 (pc' := 5) rfl rfl ?_
      refine wp_sipush (v := nI 2000) (pc' := 8) rfl rfl rfl ?_
      refine wp_icmpgeT rfl (nI_nlt (by omega) (by omega)) ?_
      refine wp_iload2 (pc' := 30) rfl rfl ?_
      refine wp_iret rfl rfl rfl ?_
      exact kk
    | succ r ih =>
      intro i hi 
      have hlt : i < 2000 := by omega
      refine wp_iload3 (pc' := 5) rfl rfl ?_
      refine wp_sipush (v := nI 2000) (pc' := 8) rfl rfl rfl ?_
      refine wp_icmpgeF (pc' := 11) rfl (nI_lt (by omega) (by omega)) rfl ?_
      refine wp_aload0 (pc' := 12) rfl rfl ?_
      refine wp_iload3 (pc' := 13) rfl rfl ?_
      refine wp_iload1 (pc' := 14) rfl rfl ?_
      refine wp_callV3 (pc' := 17) rfl rfl rfl rfl rfl (by first | exact TK.k1 hT rfl | exact TK.kk hT rfl | exact TK.r hT rfl | assumption) rfl rfl ?_
      refine c_fits hT (by omega) htv htl hm ?_
      refine Cont.v ?_
      first | refine wp_ifeqB (pc' := 20) rfl rfl ?_ ?_ | refine wp_ifeq (pc' := 20) rfl rfl ?_ ?_
      · intro h17
        first | refine wp_iinc3 (w := nI 1) (pc' := 26) rfl rfl rfl (by with_reducible exact nI_add _ _) rfl ?_ | refine wp_iinc3 (w := nI 1) (pc' := 26) rfl rfl rfl rfl rfl ?_
        refine wp_goto rfl ?_
        exact WP.cg (ih (i + 1) (by omega)) (lC1 (lI1 (by first | with_reducible rfl | (simp only [fcnt, forN, h17, Bool.false_eq_true, ↓reduceIte]; done)) (lI1 (by first | with_reducible rfl | (simp only [fcnt, forN, h17, Bool.false_eq_true, ↓reduceIte]; done)) (lI1 (by first | with_reducible rfl | (simp only [fcnt, forN, h17, Bool.false_eq_true, ↓reduceIte]; done)) rfl)))) rfl (by first | with_reducible rfl | (simp only [forN, *, ↓reduceIte, not_true_eq_false, not_false_eq_true, and_self, and_true, true_and, and_false, false_and]; done) | rfl | (simp_all [forN]; done))
      · intro h17
        first | refine wp_iinc2 (w := nI 1) (pc' := 23) rfl rfl rfl (by with_reducible exact nI_add _ _) rfl ?_ | refine wp_iinc2 (w := nI 1) (pc' := 23) rfl rfl rfl rfl rfl ?_
        first | refine wp_iinc3 (w := nI 1) (pc' := 26) rfl rfl rfl (by with_reducible exact nI_add _ _) rfl ?_ | refine wp_iinc3 (w := nI 1) (pc' := 26) rfl rfl rfl rfl rfl ?_
        refine wp_goto rfl ?_
        exact WP.cg (ih (i + 1) (by omega)) (lC1 (lI1 (by first | with_reducible rfl | (simp only [fcnt, forN, h17, Bool.false_eq_true, ↓reduceIte]; done)) (lI1 (by first | with_reducible rfl | (simp only [fcnt, forN, h17, Bool.false_eq_true, ↓reduceIte]; done)) (lI1 (by first | with_reducible rfl | (simp only [fcnt, forN, h17, Bool.false_eq_true, ↓reduceIte]; done)) rfl)))) rfl (by first | with_reducible rfl | (simp only [forN, *, ↓reduceIte, not_true_eq_false, not_false_eq_true, and_self, and_true, true_and, and_false, false_and]; done) | rfl | (simp_all [forN]; done))
  exact WP.cg (lp4 (2000 - (0)) (0) (by omega)) (lC1 (lI1 (by rfl) (lI1 (by rfl) (lI1 (by rfl) rfl)))) rfl (by first | with_reducible rfl | (simp only [forN, *, ↓reduceIte, not_true_eq_false, not_false_eq_true, and_self, and_true, true_and, and_false, false_and]; done) | rfl | (simp_all [forN]; done))
theorem c_noteChanges {d : Nat} {K : Nat → Nat × Nat} {I : Nat → Nat → Int32} {L : Nat → Nat → Int64} {R : Nat → Nat → Option Nat} {n s : Nat} {Q : Lo → Lm → Prop} {k : Nat} {N : Mem} (hT : TK K R n) (hk : k < 2000) (kk : Q (.inl none) (K, chgM I (ncN k N), L, R, n, s)) : Ok (d + 2) 174 [.ref 69, .int (nI k)] (K, chgM I N, L, R, n, s) Q := by
  obtain ⟨-, -, hn⟩ := id hT
  refine Ok.enter (F := F_174) (ls := [.ref 69, .int (nI k), lDead, lDead, lDead]) rfl rfl ?_
  refine wp_iload1 (pc' := 1) rfl rfl ?_
  refine wp_callS1 (pc' := 4) rfl rfl rfl rfl rfl rfl ?_
  refine c_ffirst (by omega) ?_
  refine Cont.v ?_
  refine wp_istore2 (pc' := 5) rfl (by first | rfl | assumption) rfl ?_
  refine wp_iload1 (pc' := 6) rfl rfl ?_
  refine wp_callS1 (pc' := 9) rfl rfl rfl rfl rfl rfl ?_
  refine c_fpace (by omega) ?_
  refine Cont.v ?_
  refine wp_istore3 (pc' := 10) rfl (by first | rfl | assumption) rfl ?_
  refine wp_aload0 (pc' := 11) rfl rfl ?_
  refine wp_getRF (pc' := 14) rfl rfl (by first | exact TK.k1 hT rfl | exact TK.kk hT rfl | exact TK.r hT rfl | assumption) (by first | exact TK.k1 hT rfl | exact TK.kk hT rfl | exact TK.r hT rfl | assumption) rfl ?_
  refine wp_iconst (v := nI 0) (pc' := 15) rfl rfl rfl ?_
  refine wp_rald 0 (pc' := 16) rfl (TK.kk hT rfl) rfl (by omega) (by decide) (TK.chg hT (by omega)) rfl ?_
  refine wp_iload2 (pc' := 17) rfl rfl ?_
  refine wp_dup2 (pc' := 18) rfl rfl rfl rfl ?_
  refine wp_iald (k / 200) (pc' := 19) rfl (TK.chgk hT (by omega)) rfl (by omega) (by decide) rfl ?_
  rw [chg_at (by omega)]
  refine wp_iconst (v := nI 1) (pc' := 20) rfl rfl rfl ?_
  first | refine wp_iaddN (pc' := 21) rfl (by with_reducible rfl) (by with_reducible rfl) rfl ?_ | refine wp_iadd (pc' := 21) rfl rfl ?_
  refine wp_iast (k / 200) (pc' := 22) rfl (TK.chgk hT (by omega)) (by omega) rfl (by omega) (by decide) rfl ?_
  rw [chg_up2 (by omega)]
  refine wp_iload3 (pc' := 23) rfl rfl ?_
  refine wp_istore4 (pc' := 25) rfl (by first | rfl | assumption) rfl ?_
  have lp25 : ∀ r (e v : Nat) (M : Mem), v ≤ r → v ≤ 9 → e ≤ 200 → ncL (min (k % 10) (k / 200)) (k / 10 % 20 + 1) v e M = ncN k N → WP (d + 1) F_174 25 [.ref 69, .int (nI k), .int (nI v), .int (nI (k / 10 % 20 + 1)), .int (nI e)] [] (K, chgM I M, L, R, n, s) Q := by
    intro r; induction r with
    | zero =>
      intro e v M hi hv0 hv1 hv2
      refine wp_iload4 (pc' := 27) rfl rfl ?_
      refine wp_bipush (v := nI 100) (pc' := 29) rfl rfl rfl ?_
      refine wp_icmpge (pc' := 32) rfl rfl ?_ ?_
      · intro h29
        refine wp_vret rfl rfl ?_
        exact Qu kk (by
          rw [← hv2]
          by_cases hz : v = 0
          · subst hz; rfl
          · obtain ⟨w, rfl⟩ : ∃ w, v = w + 1 := ⟨v - 1, by omega⟩
            rw [ncL, if_neg (fun q => by first | omega | exact absurd (nI_lt q.1 (by decide)) h29 | exact absurd (nI_lt q.2 (by omega)) h37)])
      · intro h29
        refine wp_iload2 (pc' := 33) rfl rfl ?_
        refine wp_iload1 (pc' := 34) rfl rfl ?_
        refine wp_callS1 (pc' := 37) rfl rfl rfl rfl rfl rfl ?_
        refine c_fleast (by omega) ?_
        refine Cont.v ?_
        refine wp_icmpleT rfl (nI_nlt (by omega) (by omega)) ?_
        refine wp_vret rfl rfl ?_
        exact Qu kk (by
          rw [← hv2]
          by_cases hz : v = 0
          · subst hz; rfl
          · obtain ⟨w, rfl⟩ : ∃ w, v = w + 1 := ⟨v - 1, by omega⟩
            rw [ncL, if_neg (fun q => by first | omega | exact absurd (nI_lt q.1 (by decide)) h29 | exact absurd (nI_lt q.2 (by omega)) h37)])
    | succ r ih =>
      intro e v M hi hv0 hv1 hv2
      refine wp_iload4 (pc' := 27) rfl rfl ?_
      refine wp_bipush (v := nI 100) (pc' := 29) rfl rfl rfl ?_
      refine wp_icmpge (pc' := 32) rfl rfl ?_ ?_
      · intro h29
        refine wp_vret rfl rfl ?_
        exact Qu kk (by
          rw [← hv2]
          by_cases hz : v = 0
          · subst hz; rfl
          · obtain ⟨w, rfl⟩ : ∃ w, v = w + 1 := ⟨v - 1, by omega⟩
            rw [ncL, if_neg (fun q => by first | omega | exact absurd (nI_lt q.1 (by decide)) h29 | exact absurd (nI_lt q.2 (by omega)) h37)])
      · intro h29
        refine wp_iload2 (pc' := 33) rfl rfl ?_
        refine wp_iload1 (pc' := 34) rfl rfl ?_
        refine wp_callS1 (pc' := 37) rfl rfl rfl rfl rfl rfl ?_
        refine c_fleast (by omega) ?_
        refine Cont.v ?_
        refine wp_icmple (pc' := 40) rfl rfl ?_ ?_
        · intro h37
          refine wp_vret rfl rfl ?_
          exact Qu kk (by
            rw [← hv2]
            by_cases hz : v = 0
            · subst hz; rfl
            · obtain ⟨w, rfl⟩ : ∃ w, v = w + 1 := ⟨v - 1, by omega⟩
              rw [ncL, if_neg (fun q => by first | omega | exact absurd (nI_lt q.1 (by decide)) h29 | exact absurd (nI_lt q.2 (by omega)) h37)])
        · intro h37
          have he : e < 100 := (nI_ltI (by omega) (by decide)).mp h29
          have hvl := (nI_ltI (by omega) (by omega)).mp h37
          refine wp_aload0 (pc' := 41) rfl rfl ?_
          refine wp_getRF (pc' := 44) rfl rfl (by first | exact TK.k1 hT rfl | exact TK.kk hT rfl | exact TK.r hT rfl | assumption) (by first | exact TK.k1 hT rfl | exact TK.kk hT rfl | exact TK.r hT rfl | assumption) rfl ?_
          refine wp_iload4 (pc' := 46) rfl rfl ?_
          refine wp_rald e (pc' := 47) rfl (TK.kk hT rfl) rfl (by omega) (by decide) (TK.chg hT (by omega)) rfl ?_
          refine wp_iload2 (pc' := 48) rfl rfl ?_
          refine wp_dup2 (pc' := 49) rfl rfl rfl rfl ?_
          refine wp_iald v (pc' := 50) rfl (TK.chgk hT (by omega)) rfl (by omega) (by decide) rfl ?_
          rw [chg_at (by omega)]
          refine wp_iconst (v := nI 1) (pc' := 51) rfl rfl rfl ?_
          first | refine wp_isubN (pc' := 52) rfl (by with_reducible rfl) (by with_reducible rfl) (by omega) rfl ?_ | refine wp_isub (pc' := 52) rfl rfl ?_
          refine wp_iast v (pc' := 53) rfl (TK.chgk hT (by omega)) (by omega) rfl (by omega) (by decide) rfl ?_
          rw [chg_up2 (by omega)]
          first | refine wp_iinc2 (w := (-1)) (pc' := 56) rfl rfl rfl (by with_reducible exact nI_sub1 (by omega)) rfl ?_ | refine wp_iinc2 (w := (-1)) (pc' := 56) rfl rfl rfl rfl rfl ?_
          refine wp_aload0 (pc' := 57) rfl rfl ?_
          refine wp_getRF (pc' := 60) rfl rfl (by first | exact TK.k1 hT rfl | exact TK.kk hT rfl | exact TK.r hT rfl | assumption) (by first | exact TK.k1 hT rfl | exact TK.kk hT rfl | exact TK.r hT rfl | assumption) rfl ?_
          refine wp_iload4 (pc' := 62) rfl rfl ?_
          refine wp_rald e (pc' := 63) rfl (TK.kk hT rfl) rfl (by omega) (by decide) (TK.chg hT (by omega)) rfl ?_
          refine wp_iload2 (pc' := 64) rfl rfl ?_
          refine wp_dup2 (pc' := 65) rfl rfl rfl rfl ?_
          refine wp_iald (v - 1) (pc' := 66) rfl (TK.chgk hT (by omega)) rfl (by omega) (by decide) rfl ?_
          rw [chg_at (by omega)]
          refine wp_iconst (v := nI 1) (pc' := 67) rfl rfl rfl ?_
          first | refine wp_iaddN (pc' := 68) rfl (by with_reducible rfl) (by with_reducible rfl) rfl ?_ | refine wp_iadd (pc' := 68) rfl rfl ?_
          refine wp_iast (v - 1) (pc' := 69) rfl (TK.chgk hT (by omega)) (by omega) rfl (by omega) (by decide) rfl ?_
          rw [chg_up2 (by omega)]
          refine wp_iload4 (pc' := 71) rfl rfl ?_
          refine wp_iload3 (pc' := 72) rfl rfl ?_
          first | refine wp_iaddN (pc' := 73) rfl (by with_reducible rfl) (by with_reducible rfl) rfl ?_ | refine wp_iadd (pc' := 73) rfl rfl ?_
          refine wp_istore4 (pc' := 75) rfl (by first | rfl | assumption) rfl ?_
          refine wp_goto rfl ?_
          have hu : ncL (min (k % 10) (k / 200)) (k / 10 % 20 + 1) (v - 1) (e + (k / 10 % 20 + 1)) (up2 (up2 M e v (M e v - nI 1)) e (v - 1) (up2 M e v (M e v - nI 1) e (v - 1) + nI 1)) = ncN k N := by
            rw [← hv2]
            obtain ⟨w, rfl⟩ : ∃ w, v = w + 1 := ⟨v - 1, by omega⟩
            rw [ncL, if_pos ⟨he, hvl⟩]; rfl
          exact ih _ _ _ (by omega) (by omega) (by omega) hu
  exact WP.cg (lp25 (k / 200) (k / 10 % 20 + 1) (k / 200) (up2 N 0 (k / 200) (N 0 (k / 200) + nI 1)) (Nat.le_refl _) (by omega) (by omega) rfl) (lC1 (lI1 (by rfl) (lI1 (by rfl) (lI1 (by rfl) (lI1 (by rfl) rfl))))) rfl (by rfl)
theorem c_leastG {d : Nat} {K : Nat → Nat × Nat} {I : Nat → Nat → Int32} {L : Nat → Nat → Int64} {R : Nat → Nat → Option Nat} {n s : Nat} {Q : Lo → Lm → Prop} {N : Mem} (hT : TK K R n) (kk : Q (.inl (some (.int ((lgF N (fillR 10 (nI 0) (I 171)) 100).2.2)))) (K, upr (chgM I N) 171 (lgF N (fillR 10 (nI 0) (I 171)) 100).1, L, R, n, s)) : Ok (d + 2) 175 [.ref 69] (K, chgM I N, L, R, n, s) Q := by
  obtain ⟨-, -, hn⟩ := id hT
  refine Ok.enter (F := F_175) (ls := [.ref 69, lDead, lDead, lDead, lDead, lDead]) rfl rfl ?_
  refine wp_aload0 (pc' := 1) rfl rfl ?_
  refine wp_getRF (pc' := 4) rfl rfl (by first | exact TK.k1 hT rfl | exact TK.kk hT rfl | exact TK.r hT rfl | assumption) (by first | exact TK.k1 hT rfl | exact TK.kk hT rfl | exact TK.r hT rfl | assumption) rfl ?_
  refine wp_iconst (v := nI 0) (pc' := 5) rfl rfl rfl ?_
  refine wp_callS2 (pc' := 8) rfl rfl rfl rfl rfl rfl ?_
  refine c_fill (w := 10) (TK.kk hT rfl) (by decide) (by omega) ?_
  refine Cont.u ?_
  rw [chg_out (show 171 < 71 ∨ 171 ≤ 171 by omega)]
  generalize hP : fillR 10 (nI 0) (I 171) = P
  refine wp_sipush (v := nI 2001) (pc' := 11) rfl rfl rfl ?_
  refine wp_istore1 (pc' := 12) rfl (by first | rfl | assumption) rfl ?_
  refine wp_iconst (v := (-1)) (pc' := 13) rfl rfl rfl ?_
  refine wp_istore2 (pc' := 14) rfl (by first | rfl | assumption) rfl ?_
  refine wp_iconst (v := nI 0) (pc' := 15) rfl rfl rfl ?_
  refine wp_istore3 (pc' := 16) rfl (by first | rfl | assumption) rfl ?_
  have lp16 : ∀ r (i : Nat) (v4 : Value) (v5 : Value), i + r = 100 → isL v4 = false → isL v5 = false → WP (d + 1) F_175 16 [.ref 69, .int (lgF N P i).2.1, .int (lgF N P i).2.2, .int (nI i), v4, v5] [] (K, upr (chgM I N) 171 (lgF N P i).1, L, R, n, s) Q := by
    intro r; induction r with
    | zero =>
      intro i v4 v5 hi hv0 hv1
      have hi2 : i = 100 := by omega
      subst hi2
      refine wp_iload3 (pc' := 17) rfl rfl ?_
      refine wp_bipush (v := nI 100) (pc' := 19) rfl rfl rfl ?_
      refine wp_icmpgeT rfl (nI_nlt (by omega) (by omega)) ?_
      refine wp_iload2 (pc' := 92) rfl rfl ?_
      refine wp_iret rfl rfl rfl ?_
      exact Qv kk (by rw [hP]) (by rw [hP])
    | succ r ih =>
      intro i v4 v5 hi hv0 hv1
      have hlt : i < 100 := by omega
      have hsx : lgF N P (i + 1) = lgS N i (lgF N P i) := rfl
      obtain ⟨G, a, b, hp⟩ : ∃ G a b, lgF N P i = (G, a, b) := ⟨_, _, _, rfl⟩
      rw [hp] at hsx ⊢
      dsimp only
      refine wp_iload3 (pc' := 17) rfl rfl ?_
      refine wp_bipush (v := nI 100) (pc' := 19) rfl rfl rfl ?_
      refine wp_icmpgeF (pc' := 22) rfl (nI_lt (by omega) (by omega)) rfl ?_
      refine wp_iconst (v := nI 0) (pc' := 23) rfl rfl rfl ?_
      refine wp_istore4 (pc' := 25) rfl (by first | rfl | assumption) rfl ?_
      refine wp_iconst (v := nI 0) (pc' := 26) rfl rfl rfl ?_
      refine wp_istore5 (pc' := 28) rfl (by first | rfl | assumption) rfl ?_
      have lp28 : ∀ rb (j : Nat), j + rb = 10 → WP (d + 1) F_175 28 [.ref 69, .int a, .int b, .int (nI i), .int (lgI N i G j).2, .int (nI j)] [] (K, upr (chgM I N) 171 (lgI N i G j).1, L, R, n, s) Q := by
        intro rb; induction rb with
        | zero =>
          intro j hib 
          have hi2b : j = 10 := by omega
          subst hi2b
          refine wp_iload5 (pc' := 30) rfl rfl ?_
          refine wp_bipush (v := nI 10) (pc' := 32) rfl rfl rfl ?_
          refine wp_icmpgeT rfl (nI_nlt (by omega) (by omega)) ?_
          refine wp_iload4 (pc' := 76) rfl rfl ?_
          refine wp_iload1 (pc' := 77) rfl rfl ?_
          refine wp_icmpge (pc' := 80) rfl rfl ?_ ?_
          · intro h77
            first | refine wp_iinc3 (w := nI 1) (pc' := 88) rfl rfl rfl (by with_reducible exact nI_add _ _) rfl ?_ | refine wp_iinc3 (w := nI 1) (pc' := 88) rfl rfl rfl rfl rfl ?_
            refine wp_goto rfl ?_
            exact WP.cg (ih (i + 1) _ _ (by omega) (by first | rfl | assumption) (by first | rfl | assumption)) (lC1 (lI1 (by first | with_reducible rfl | (rw [hsx]; simp only [lgS, h77, ↓reduceIte]; done)) (lI1 (by first | with_reducible rfl | (rw [hsx]; simp only [lgS, h77, ↓reduceIte]; done)) (lI1 (by first | with_reducible rfl | (rw [hsx]; simp only [lgS, h77, ↓reduceIte]; done)) (lC1 (lC1 rfl)))))) rfl (by rw [hsx]; rfl)
          · intro h77
            refine wp_iload4 (pc' := 82) rfl rfl ?_
            refine wp_istore1 (pc' := 83) rfl (by first | rfl | assumption) rfl ?_
            refine wp_iload3 (pc' := 84) rfl rfl ?_
            refine wp_istore2 (pc' := 85) rfl (by first | rfl | assumption) rfl ?_
            first | refine wp_iinc3 (w := nI 1) (pc' := 88) rfl rfl rfl (by with_reducible exact nI_add _ _) rfl ?_ | refine wp_iinc3 (w := nI 1) (pc' := 88) rfl rfl rfl rfl rfl ?_
            refine wp_goto rfl ?_
            exact WP.cg (ih (i + 1) _ _ (by omega) (by first | rfl | assumption) (by first | rfl | assumption)) (lC1 (lI1 (by first | with_reducible rfl | (rw [hsx]; simp only [lgS, h77, ↓reduceIte]; done)) (lI1 (by first | with_reducible rfl | (rw [hsx]; simp only [lgS, h77, ↓reduceIte]; done)) (lI1 (by first | with_reducible rfl | (rw [hsx]; simp only [lgS, h77, ↓reduceIte]; done)) (lC1 (lC1 rfl)))))) rfl (by rw [hsx]; rfl)
        | succ rb ihb =>
          intro j hib 
          have hltb : j < 10 := by omega
          have hsy : lgI N i G (j + 1) = (up1 (lgI N i G j).1 j ((lgI N i G j).1 j + N i j), jmax (lgI N i G j).2 ((lgI N i G j).1 j + N i j)) := rfl
          generalize hq : lgI N i G j = q at hsy ⊢
          refine wp_iload5 (pc' := 30) rfl rfl ?_
          refine wp_bipush (v := nI 10) (pc' := 32) rfl rfl rfl ?_
          refine wp_icmpgeF (pc' := 35) rfl (nI_lt (by omega) (by omega)) rfl ?_
          refine wp_aload0 (pc' := 36) rfl rfl ?_
          refine wp_getRF (pc' := 39) rfl rfl (by first | exact TK.k1 hT rfl | exact TK.kk hT rfl | exact TK.r hT rfl | assumption) (by first | exact TK.k1 hT rfl | exact TK.kk hT rfl | exact TK.r hT rfl | assumption) rfl ?_
          refine wp_iload5 (pc' := 41) rfl rfl ?_
          refine wp_dup2 (pc' := 42) rfl rfl rfl rfl ?_
          refine wp_iald _ (pc' := 43) rfl (by first | exact TK.k1 hT rfl | exact TK.kk hT rfl | exact TK.r hT rfl | assumption) (by with_reducible rfl) (by omega) (by first | decide | assumption | omega) rfl ?_
          rw [upr_same]
          refine wp_aload0 (pc' := 44) rfl rfl ?_
          refine wp_getRF (pc' := 47) rfl rfl (by first | exact TK.k1 hT rfl | exact TK.kk hT rfl | exact TK.r hT rfl | assumption) (by first | exact TK.k1 hT rfl | exact TK.kk hT rfl | exact TK.r hT rfl | assumption) rfl ?_
          refine wp_iload3 (pc' := 48) rfl rfl ?_
          refine wp_rald i (pc' := 49) rfl (TK.kk hT rfl) rfl (by omega) (by decide) (TK.chg hT (by omega)) rfl ?_
          refine wp_iload5 (pc' := 51) rfl rfl ?_
          refine wp_iald j (pc' := 52) rfl (TK.chgk hT (by omega)) rfl (by omega) (by decide) rfl ?_
          rw [upr_ne (show 71 + i ≠ 171 by omega), chg_at (by omega)]
          first | refine wp_iaddN (pc' := 53) rfl (by with_reducible rfl) (by with_reducible rfl) rfl ?_ | refine wp_iadd (pc' := 53) rfl rfl ?_
          refine wp_iast _ (pc' := 54) rfl (by first | exact TK.k1 hT rfl | exact TK.kk hT rfl | exact TK.r hT rfl | assumption) (by omega) (by with_reducible rfl) (by omega) (by first | decide | assumption | omega) rfl ?_
          refine wp_iload4 (pc' := 56) rfl rfl ?_
          refine wp_aload0 (pc' := 57) rfl rfl ?_
          refine wp_getRF (pc' := 60) rfl rfl (by first | exact TK.k1 hT rfl | exact TK.kk hT rfl | exact TK.r hT rfl | assumption) (by first | exact TK.k1 hT rfl | exact TK.kk hT rfl | exact TK.r hT rfl | assumption) rfl ?_
          refine wp_iload5 (pc' := 62) rfl rfl ?_
          refine wp_iald _ (pc' := 63) rfl (by first | exact TK.k1 hT rfl | exact TK.kk hT rfl | exact TK.r hT rfl | assumption) (by with_reducible rfl) (by omega) (by first | decide | assumption | omega) rfl ?_
          rw [up2_hit]
          refine wp_max (pc' := 66) rfl rfl rfl rfl ?_
          refine wp_istore4 (pc' := 68) rfl (by first | rfl | assumption) rfl ?_
          first | refine wp_iinc5 (w := nI 1) (pc' := 71) rfl rfl rfl (by with_reducible exact nI_add _ _) rfl ?_ | refine wp_iinc5 (w := nI 1) (pc' := 71) rfl rfl rfl rfl rfl ?_
          refine wp_goto rfl ?_
          exact WP.cg (ihb (j + 1) (by omega)) (lC1 (lI1 (by first | with_reducible rfl | rw [hsy]) (lI1 (by first | with_reducible rfl | rw [hsy]) (lI1 (by first | with_reducible rfl | rw [hsy]) (lI1 (by first | with_reducible rfl | rw [hsy]) (lI1 (by first | with_reducible rfl | rw [hsy]) rfl)))))) rfl (by rw [hsy, up2_upr])
      exact WP.cg (lp28 (10 - (0)) (0) (by omega)) (lC1 (lI1 (by rfl) (lI1 (by rfl) (lI1 (by rfl) (lI1 (by rfl) (lI1 (by rfl) rfl)))))) rfl (by rfl)
  exact WP.cg (lp16 (100 - (0)) (0) _ _ (by omega) (by first | rfl | assumption) (by first | rfl | assumption)) (lC1 (lI1 (by rfl) (lI1 (by rfl) (lI1 (by rfl) (lC1 (lC1 rfl)))))) rfl (by rfl)
theorem c_bestDay {d : Nat} {K : Nat → Nat × Nat} {I : Nat → Nat → Int32} {L : Nat → Nat → Int64} {R : Nat → Nat → Option Nat} {n s : Nat} {Q : Lo → Lm → Prop} {m : Nat} {tv : Nat → Nat} (hT : TK K R n) (htv : ∀ j, j < 400 → I 38 j = nI (tv j)) (htl : ∀ j, j < 400 → tv j < 256) (hm : m ≤ 20) (kk0 : (bdF tv m (zrN (fun j => I (71 + j)) 100) 2000).2 < nI 2 → Q (.inl (some (.int (-1)))) (K, chgM I (bdF tv m (zrN (fun j => I (71 + j)) 100) 2000).1, L, R, n, s)) (kk1 : ¬ (bdF tv m (zrN (fun j => I (71 + j)) 100) 2000).2 < nI 2 → Q (.inl (some (.int ((lgF (bdF tv m (zrN (fun j => I (71 + j)) 100) 2000).1 (fillR 10 (nI 0) (I 171)) 100).2.2)))) (K, upr (chgM I (bdF tv m (zrN (fun j => I (71 + j)) 100) 2000).1) 171 (lgF (bdF tv m (zrN (fun j => I (71 + j)) 100) 2000).1 (fillR 10 (nI 0) (I 171)) 100).1, L, R, n, s)) : Ok (d + 3) 173 [.ref 69, .int (nI m)] (K, I, L, R, n, s) Q := by
  obtain ⟨-, -, hn⟩ := id hT
  refine Ok.enter (F := F_173) (ls := [.ref 69, .int (nI m), lDead, lDead]) rfl rfl ?_
  refine wp_iconst (v := nI 0) (pc' := 1) rfl rfl rfl ?_
  refine wp_istore2 (pc' := 2) rfl (by first | rfl | assumption) rfl ?_
  have lp2 : ∀ r (i : Nat) (v3 : Value), i + r = 100 → isL v3 = false → WP (d + 2) F_173 2 [.ref 69, .int (nI m), .int (nI i), v3] [] (K, chgM I (zrN (fun j => I (71 + j)) i), L, R, n, s) Q := by
    intro r; induction r with
    | zero =>
      intro i v3 hi hv0
      have hi2 : i = 100 := by omega
      subst hi2
      refine wp_iload2 (pc' := 3) rfl rfl ?_
      refine wp_bipush (v := nI 100) (pc' := 5) rfl rfl rfl ?_
      refine wp_icmpgeT rfl (nI_nlt (by omega) (by omega)) ?_
      generalize hZ : zrN (fun j => I (71 + j)) 100 = Z
      refine wp_iconst (v := nI 0) (pc' := 25) rfl rfl rfl ?_
      refine wp_istore2 (pc' := 26) rfl (by first | rfl | assumption) rfl ?_
      refine wp_iconst (v := nI 0) (pc' := 27) rfl rfl rfl ?_
      refine wp_istore3 (pc' := 28) rfl (by first | rfl | assumption) rfl ?_
      have lp28 : ∀ rb (i : Nat), i + rb = 2000 → WP (d + 2) F_173 28 [.ref 69, .int (nI m), .int (bdF tv m Z i).2, .int (nI i)] [] (K, chgM I (bdF tv m Z i).1, L, R, n, s) Q := by
        intro rb; induction rb with
        | zero =>
          intro i hib 
          have hi2b : i = 2000 := by omega
          subst hi2b
          refine wp_iload3 (pc' := 29) rfl rfl ?_
          refine wp_sipush (v := nI 2000) (pc' := 32) rfl rfl rfl ?_
          refine wp_icmpgeT rfl (nI_nlt (by omega) (by omega)) ?_
          generalize hY : bdF tv m Z 2000 = Y
          refine wp_iload2 (pc' := 59) rfl rfl ?_
          refine wp_iconst (v := nI 2) (pc' := 60) rfl rfl rfl ?_
          refine wp_icmpge (pc' := 63) rfl rfl ?_ ?_
          · intro h60
            refine wp_aload0 (pc' := 68) rfl rfl ?_
            refine wp_callV1 (pc' := 71) rfl rfl rfl rfl rfl (by first | exact TK.k1 hT rfl | exact TK.kk hT rfl | exact TK.r hT rfl | assumption) rfl rfl ?_
            refine c_leastG hT ?_
            refine Cont.v ?_
            refine wp_iret rfl rfl rfl ?_
            first | exact Qv (kk1 (by rw [hZ, hY]; exact h60)) (by rw [hZ, hY]) (by rw [hZ, hY]) | exact Qv (kk0 (by rw [hZ, hY]; exact h60)) rfl (by rw [hZ, hY])
          · intro h60
            refine wp_iconst (v := (-1)) (pc' := 64) rfl rfl rfl ?_
            refine wp_goto rfl ?_
            refine wp_iret rfl rfl rfl ?_
            first | exact Qv (kk1 (by rw [hZ, hY]; exact h60)) (by rw [hZ, hY]) (by rw [hZ, hY]) | exact Qv (kk0 (by rw [hZ, hY]; exact h60)) rfl (by rw [hZ, hY])
        | succ rb ihb =>
          intro i hib 
          have hltb : i < 2000 := by omega
          have hsx : bdF tv m Z (i + 1) = bdS tv m i (bdF tv m Z i) := rfl
          obtain ⟨G, f, hp⟩ : ∃ G f, bdF tv m Z i = (G, f) := ⟨_, _, rfl⟩
          rw [hp] at hsx ⊢
          dsimp only
          refine wp_iload3 (pc' := 29) rfl rfl ?_
          refine wp_sipush (v := nI 2000) (pc' := 32) rfl rfl rfl ?_
          refine wp_icmpgeF (pc' := 35) rfl (nI_lt (by omega) (by omega)) rfl ?_
          refine wp_aload0 (pc' := 36) rfl rfl ?_
          refine wp_iload3 (pc' := 37) rfl rfl ?_
          refine wp_iload1 (pc' := 38) rfl rfl ?_
          refine wp_callV3 (pc' := 41) rfl rfl rfl rfl rfl (by first | exact TK.k1 hT rfl | exact TK.kk hT rfl | exact TK.r hT rfl | assumption) rfl rfl ?_
          refine c_fits hT (by omega) (fun j hj => by rw [chg_out (by omega)]; exact htv j hj) htl hm ?_
          refine Cont.v ?_
          first | refine wp_ifeqB (pc' := 44) rfl rfl ?_ ?_ | refine wp_ifeq (pc' := 44) rfl rfl ?_ ?_
          · intro h41
            first | refine wp_iinc3 (w := nI 1) (pc' := 55) rfl rfl rfl (by with_reducible exact nI_add _ _) rfl ?_ | refine wp_iinc3 (w := nI 1) (pc' := 55) rfl rfl rfl rfl rfl ?_
            refine wp_goto rfl ?_
            exact WP.cg (ihb (i + 1) (by omega)) (lC1 (lI1 (by first | with_reducible rfl | (rw [hsx]; simp only [bdS, h41, Bool.false_eq_true, ↓reduceIte]; done)) (lI1 (by first | with_reducible rfl | (rw [hsx]; simp only [bdS, h41, Bool.false_eq_true, ↓reduceIte]; done)) (lI1 (by first | with_reducible rfl | (rw [hsx]; simp only [bdS, h41, Bool.false_eq_true, ↓reduceIte]; done)) rfl)))) rfl (by rw [hsx]; simp only [bdS, h41, Bool.false_eq_true, ↓reduceIte])
          · intro h41
            first | refine wp_iinc2 (w := nI 1) (pc' := 47) rfl rfl rfl (by with_reducible exact nI_add _ _) rfl ?_ | refine wp_iinc2 (w := nI 1) (pc' := 47) rfl rfl rfl rfl rfl ?_
            refine wp_aload0 (pc' := 48) rfl rfl ?_
            refine wp_iload3 (pc' := 49) rfl rfl ?_
            refine wp_callV2 (pc' := 52) rfl rfl rfl rfl rfl (by first | exact TK.k1 hT rfl | exact TK.kk hT rfl | exact TK.r hT rfl | assumption) rfl rfl ?_
            refine c_noteChanges hT (by omega) ?_
            refine Cont.u ?_
            first | refine wp_iinc3 (w := nI 1) (pc' := 55) rfl rfl rfl (by with_reducible exact nI_add _ _) rfl ?_ | refine wp_iinc3 (w := nI 1) (pc' := 55) rfl rfl rfl rfl rfl ?_
            refine wp_goto rfl ?_
            exact WP.cg (ihb (i + 1) (by omega)) (lC1 (lI1 (by first | with_reducible rfl | (rw [hsx]; simp only [bdS, h41, Bool.false_eq_true, ↓reduceIte]; done)) (lI1 (by first | with_reducible rfl | (rw [hsx]; simp only [bdS, h41, Bool.false_eq_true, ↓reduceIte]; done)) (lI1 (by first | with_reducible rfl | (rw [hsx]; simp only [bdS, h41, Bool.false_eq_true, ↓reduceIte]; done)) rfl)))) rfl (by rw [hsx]; simp only [bdS, h41, Bool.false_eq_true, ↓reduceIte])
      exact WP.cg (lp28 (2000 - (0)) (0) (by omega)) (lC1 (lI1 (by rfl) (lI1 (by rfl) (lI1 (by rfl) rfl)))) rfl (by rfl)
    | succ r ih =>
      intro i v3 hi hv0
      have hlt : i < 100 := by omega
      refine wp_iload2 (pc' := 3) rfl rfl ?_
      refine wp_bipush (v := nI 100) (pc' := 5) rfl rfl rfl ?_
      refine wp_icmpgeF (pc' := 8) rfl (nI_lt (by omega) (by omega)) rfl ?_
      refine wp_aload0 (pc' := 9) rfl rfl ?_
      refine wp_getRF (pc' := 12) rfl rfl (by first | exact TK.k1 hT rfl | exact TK.kk hT rfl | exact TK.r hT rfl | assumption) (by first | exact TK.k1 hT rfl | exact TK.kk hT rfl | exact TK.r hT rfl | assumption) rfl ?_
      refine wp_iload2 (pc' := 13) rfl rfl ?_
      refine wp_rald i (pc' := 14) rfl (TK.kk hT rfl) rfl (by omega) (by decide) (TK.chg hT (by omega)) rfl ?_
      refine wp_iconst (v := nI 0) (pc' := 15) rfl rfl rfl ?_
      refine wp_callS2 (pc' := 18) rfl rfl rfl rfl rfl rfl ?_
      refine c_fill (w := 10) (TK.chgk hT (by omega)) (by decide) (by omega) ?_
      refine Cont.u ?_
      rw [chg_at (by omega), chg_upr (by omega)]
      first | refine wp_iinc2 (w := nI 1) (pc' := 21) rfl rfl rfl (by with_reducible exact nI_add _ _) rfl ?_ | refine wp_iinc2 (w := nI 1) (pc' := 21) rfl rfl rfl rfl rfl ?_
      refine wp_goto rfl ?_
      exact WP.cg (ih (i + 1) _ (by omega) (by first | rfl | assumption)) (lC1 (lI1 (by rfl) (lI1 (by rfl) (lC1 rfl)))) rfl (by rfl)
  exact WP.cg (lp2 (100 - (0)) (0) _ (by omega) (by first | rfl | assumption)) (lC1 (lI1 (by rfl) (lI1 (by rfl) (lC1 rfl)))) rfl (by exact mI1 chg_id.symm)
