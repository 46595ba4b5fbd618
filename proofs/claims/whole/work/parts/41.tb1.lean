/-! THE OBJECT'S METHODS: what is read -/
def piecesS (p : Int32 × Int32) : Int32 × Int32 := if p.1 = nI 0 then p else (p.1 &&& (spreadC (p.1 &&& -p.1) p.1 ^^^ (-1)), p.2 + nI 1)
def piecesF (x : Int32) (i : Nat) : Int32 × Int32 := forN (fun _ p => piecesS p) (x, nI 0) i
def piecesC (x : Int32) : Int32 := (piecesF x 25).2
theorem pieces_stay {x : Int32} {i : Nat} (h : (piecesF x i).1 = nI 0) : ∀ {n : Nat}, i ≤ n → piecesF x n = piecesF x i := by
  intro n hn
  exact forN_stay piecesS (x, nI 0) (show piecesS (piecesF x i) = piecesF x i by rw [piecesS, if_pos h]) hn
def nimC (D : Nat → Int32) (x : Int32) : Int32 := forN (fun c f => if hasP x c then f ^^^ jrem (D c) (nI 4) else f) (nI 0) 25
def bridC (p : Int32) : Int32 := forN (fun c f => if ¬ p &&& jshl (nI 1) (nI c) = nI 0 then (if piecesC p < piecesC (p &&& (jshl (nI 1) (nI c) ^^^ (-1))) then f ||| jshl (nI 1) (nI c) else f) else f) (nI 0) 25
def farF (p : Int32) (o : Nat) : Nat → Nat → Int32 → Int32
  | 0, _, _ => -1
  | r + 1, i, x => if hasP x o then nI i else farF p o r (i + 1) (moreC p x)
def coldS (S : Mem) (H : Nat) : Int32 := forN (fun h f => if nI 0 < lackS S h then f ||| jshl (nI 1) (nI h) else f) (nI 0) H
def twinI (S : Mem) (h : Nat) (a : Int32) (lo k : Nat) : Int32 := forN (fun j x => if S 6 h = S 6 (lo + j) ∧ S 7 h = S 7 (lo + j) then x + nI 1 else x) a k
def twinS (S : Mem) (H : Nat) (i : Nat) : Int32 := forN (fun h x => twinI S h x (h + 1) (H - (h + 1))) (nI 0) i
def orN (D : Nat → Int32) (i : Nat) : Int32 := forN (fun h x => x ||| D h) (nI 0) i
def stagS (S : Mem) (x : Int32) (i : Nat) : Int32 := forN (fun c a => if S 5 c = x then a + S 3 c else a) (nI 0) i
def spitI (sum dep : Int32) (c : Nat) : Nat → Nat → Option Int32
  | 0, _ => none
  | r + 1, i => if dep < nI i then none else if sum ^^^ jrem dep (nI 4) ^^^ jrem (dep - nI i) (nI 4) = nI 0 then some (nI (4 * c + i)) else spitI sum dep c r (i + 1)
def spitD (D : Nat → Int32) (x : Int32) (c : Nat) : Int32 := if hasP x c then D c else nI 0
def spitO (D : Nat → Int32) (x : Int32) : Nat → Nat → Int32
  | 0, _ => -1
  | r + 1, c => match spitI (nimC D x) (spitD D x c) c 3 1 with
    | some v => v
    | none => spitO D x r (c + 1)
def spitC (D : Nat → Int32) (x : Int32) : Int32 := if nimC D x = nI 0 then -1 else spitO D x 25 0
def evenS (S : Mem) (each : Int32) (h : Nat) (p : Int32 × Int32) : Int32 × Int32 :=
  if nI 0 < S 8 h - each ∧ nI 0 < p.1 then (p.1 + (-1), p.2 + jmax (S 8 h - each + (-1)) (nI 0)) else (p.1, p.2 + jmax (S 8 h - each) (nI 0))
def evenF (S : Mem) (H i : Nat) : Int32 × Int32 := forN (fun h p => evenS S (sumN (S 8) 6 / nI H) h p) (jrem (sumN (S 8) 6) (nI H), nI 0) i
def shareS (S : Mem) (h : Nat) : Int32 := if nI 0 < sumN (S 8) 6 then nI 100 * S 8 h / sumN (S 8) 6 else nI 0
def putM (I : Mem) (T : Nat) (x : Int32) : Mem := up2 (up2 (up2 (up2 (up2 (up2 (up2 (up2 I 38 T (jushr x (nI 24) &&& nI 255)) 0 7 (nI (T + 1))) 38 (T + 1) (jushr x (nI 16) &&& nI 255)) 0 7 (nI (T + 2))) 38 (T + 2) (jushr x (nI 8) &&& nI 255)) 0 7 (nI (T + 3))) 38 (T + 3) (jushr x (nI 0) &&& nI 255)) 0 7 (nI (T + 4))
theorem putM_7 {I : Mem} {T : Nat} {x : Int32} : putM I T x 0 7 = nI (T + 4) := up2_hit
def feedM (I : Mem) (T : Nat) (a b c e f : Int32) : Mem := putM (putM (putM (putM (putM I T a) (T + 4) b) (T + 8) c) (T + 12) e) (T + 16) f
def richV (D : Nat → Int32) (H : Nat) : Int32 := if H = 0 then -1 else nI (mostN D H)
def evenC (S : Mem) (H : Nat) : Int32 := if H = 0 then nI 0 else (evenF S H H).2

theorem c_pieces {d : Nat} {K : Nat → Nat × Nat} {I : Nat → Nat → Int32} {L : Nat → Nat → Int64} {R : Nat → Nat → Option Nat} {n s : Nat} {Q : Lo → Lm → Prop} {x : Int32}  (kk : Q (.inl (some (.int (piecesC x)))) (K, I, L, R, n, s)) : Ok (d + 3) 48 [.int x] (K, I, L, R, n, s) Q := by
  refine Ok.enter (F := F_48) (ls := [.int x, lDead, lDead, lDead]) rfl rfl ?_
  refine wp_iload0 (pc' := 1) rfl rfl ?_
  refine wp_istore1 (pc' := 2) rfl (by first | rfl | assumption) rfl ?_
  refine wp_iconst (v := nI 0) (pc' := 3) rfl rfl rfl ?_
  refine wp_istore2 (pc' := 4) rfl (by first | rfl | assumption) rfl ?_
  refine wp_iconst (v := nI 0) (pc' := 5) rfl rfl rfl ?_
  refine wp_istore3 (pc' := 6) rfl (by first | rfl | assumption) rfl ?_
  have lp6 : ∀ r (i : Nat), i + r = 25 → WP (d + 2) F_48 6 [.int x, .int (piecesF x i).1, .int (piecesF x i).2, .int (nI i)] [] (K, I, L, R, n, s) Q := by
    intro r; induction r with
    | zero =>
      intro i hi 
      have hi2 : i = 25 := by omega
      subst hi2
      refine wp_iload3 (pc' := 7) rfl rfl ?_
      refine wp_bipush (v := nI 25) (pc' := 9) rfl rfl rfl ?_
      refine wp_icmpgeT rfl (nI_nlt (by omega) (by omega)) ?_
      refine wp_iload2 (pc' := 39) rfl rfl ?_
      refine wp_iret rfl rfl rfl ?_
      exact kk
    | succ r ih =>
      intro i hi 
      have hlt : i < 25 := by omega
      have hs : piecesF x (i + 1) = piecesS (piecesF x i) := rfl
      generalize hp : piecesF x i = p at hs ⊢
      refine wp_iload3 (pc' := 7) rfl rfl ?_
      refine wp_bipush (v := nI 25) (pc' := 9) rfl rfl rfl ?_
      refine wp_icmpgeF (pc' := 12) rfl (nI_lt (by omega) (by omega)) rfl ?_
      refine wp_iload1 (pc' := 13) rfl rfl ?_
      first | refine wp_ifeqB (pc' := 16) rfl rfl ?_ ?_ | refine wp_ifeq (pc' := 16) rfl rfl ?_ ?_
      · intro h13
        refine wp_iload2 (pc' := 39) rfl rfl ?_
        refine wp_iret rfl rfl rfl ?_
        exact Qv kk (by unfold piecesC; rw [pieces_stay (i := i) (by rw [hp]; assumption) (by omega), hp]) rfl
      · intro h13
        refine wp_iload1 (pc' := 17) rfl rfl ?_
        refine wp_iload1 (pc' := 18) rfl rfl ?_
        refine wp_iload1 (pc' := 19) rfl rfl ?_
        refine wp_ineg (pc' := 20) rfl rfl ?_
        refine wp_iand (pc' := 21) rfl rfl ?_
        refine wp_iload1 (pc' := 22) rfl rfl ?_
        refine wp_callS2 (pc' := 25) rfl rfl rfl rfl rfl rfl ?_
        refine c_spread ?_
        refine Cont.v ?_
        refine wp_iconst (v := (-1)) (pc' := 26) rfl rfl rfl ?_
        refine wp_ixor (pc' := 27) rfl rfl ?_
        refine wp_iand (pc' := 28) rfl rfl ?_
        refine wp_istore1 (pc' := 29) rfl (by first | rfl | assumption) rfl ?_
        first | refine wp_iinc2 (w := nI 1) (pc' := 32) rfl rfl rfl (by with_reducible exact nI_add _ _) rfl ?_ | refine wp_iinc2 (w := nI 1) (pc' := 32) rfl rfl rfl rfl rfl ?_
        first | refine wp_iinc3 (w := nI 1) (pc' := 35) rfl rfl rfl (by with_reducible exact nI_add _ _) rfl ?_ | refine wp_iinc3 (w := nI 1) (pc' := 35) rfl rfl rfl rfl rfl ?_
        refine wp_goto rfl ?_
        exact WP.cg (ih (i + 1) (by omega)) (lI1 (by first | rfl | (rw [hs]; simp only [piecesS, *, ↓reduceIte]; done)) (lI1 (by first | rfl | (rw [hs]; simp only [piecesS, *, ↓reduceIte]; done)) (lI1 (by first | rfl | (rw [hs]; simp only [piecesS, *, ↓reduceIte]; done)) (lI1 (by first | rfl | (rw [hs]; simp only [piecesS, *, ↓reduceIte]; done)) rfl)))) rfl (by first | with_reducible rfl | (simp only [forN, *, ↓reduceIte, not_true_eq_false, not_false_eq_true, and_self, and_true, true_and, and_false, false_and]; done) | rfl | (simp_all [forN]; done))
  exact WP.cg (lp6 (25 - (0)) (0) (by omega)) (lI1 (by first | with_reducible rfl | (simp only [forN, *, ↓reduceIte, not_true_eq_false, not_false_eq_true, and_self, and_true, true_and, and_false, false_and]; done) | rfl | (simp_all [forN]; done)) (lI1 (by first | with_reducible rfl | (simp only [forN, *, ↓reduceIte, not_true_eq_false, not_false_eq_true, and_self, and_true, true_and, and_false, false_and]; done) | rfl | (simp_all [forN]; done)) (lI1 (by first | with_reducible rfl | (simp only [forN, *, ↓reduceIte, not_true_eq_false, not_false_eq_true, and_self, and_true, true_and, and_false, false_and]; done) | rfl | (simp_all [forN]; done)) (lI1 (by first | with_reducible rfl | (simp only [forN, *, ↓reduceIte, not_true_eq_false, not_false_eq_true, and_self, and_true, true_and, and_false, false_and]; done) | rfl | (simp_all [forN]; done)) rfl)))) rfl (by first | with_reducible rfl | (simp only [forN, *, ↓reduceIte, not_true_eq_false, not_false_eq_true, and_self, and_true, true_and, and_false, false_and]; done) | rfl | (simp_all [forN]; done))
theorem c_useTape {d : Nat} {K : Nat → Nat × Nat} {I : Nat → Nat → Int32} {L : Nat → Nat → Int64} {R : Nat → Nat → Option Nat} {n s : Nat} {Q : Lo → Lm → Prop}  (hT : TK K R n) (kk : Q (.inl (some (.int (I 0 7)))) (K, up2 I 0 7 (nI 0), L, R, n, s)) : Ok (d + 1) 66 [.ref 0] (K, I, L, R, n, s) Q := by
  have hb := TK.s1 hT
  obtain ⟨-, -, hn⟩ := id hT
  refine Ok.enter (F := F_66) (ls := [.ref 0, lDead]) rfl rfl ?_
  refine wp_aload0 (pc' := 1) rfl rfl ?_
  refine wp_getI (pc' := 4) rfl rfl (by first | exact TK.k1 hT rfl | exact TK.kk hT rfl | exact TK.r hT rfl | assumption) rfl ?_
  refine wp_istore1 (pc' := 5) rfl (by first | rfl | assumption) rfl ?_
  refine wp_aload0 (pc' := 6) rfl rfl ?_
  refine wp_iconst (v := nI 0) (pc' := 7) rfl rfl rfl ?_
  refine wp_putI (pc' := 10) rfl rfl (by first | exact TK.k1 hT rfl | exact TK.kk hT rfl | exact TK.r hT rfl | assumption) (by omega) rfl ?_
  refine wp_iload1 (pc' := 11) rfl rfl ?_
  refine wp_iret rfl rfl rfl ?_
  exact kk
theorem c_end {d : Nat} {K : Nat → Nat × Nat} {I : Nat → Nat → Int32} {L : Nat → Nat → Int64} {R : Nat → Nat → Option Nat} {n s : Nat} {Q : Lo → Lm → Prop} {x : Int32} (hT : TK K R n) (kk0 : (x < nI 0 ∨ I 0 7 < x) → Q (.inl (some (.int (nI 0)))) (K, I, L, R, n, s)) (kk : ¬ x < nI 0 → ¬ I 0 7 < x → Q (.inl (some (.int (nI 1)))) (K, up2 I 0 7 x, L, R, n, s)) : Ok (d + 1) 13 [.ref 0, .int x] (K, I, L, R, n, s) Q := by
  have hb := TK.s1 hT
  obtain ⟨-, -, hn⟩ := id hT
  refine Ok.enter (F := F_13) (ls := [.ref 0, .int x]) rfl rfl ?_
  refine wp_iload1 (pc' := 1) rfl rfl ?_
  refine wp_iflt (pc' := 4) rfl rfl ?_ ?_
  · intro h1
    refine wp_iconst (v := nI 0) (pc' := 13) rfl rfl rfl ?_
    refine wp_iret rfl rfl (by first | rfl | exact nar_if) ?_
    first | exact kk0 (Or.inl (by first | assumption)) | exact kk0 (Or.inr (by first | assumption))
  · intro h1
    refine wp_iload1 (pc' := 5) rfl rfl ?_
    refine wp_aload0 (pc' := 6) rfl rfl ?_
    refine wp_getI (pc' := 9) rfl rfl (by first | exact TK.k1 hT rfl | exact TK.kk hT rfl | exact TK.r hT rfl | assumption) rfl ?_
    refine wp_icmple (pc' := 12) rfl rfl ?_ ?_
    · intro h9
      refine wp_aload0 (pc' := 15) rfl rfl ?_
      refine wp_iload1 (pc' := 16) rfl rfl ?_
      refine wp_putI (pc' := 19) rfl rfl (by first | exact TK.k1 hT rfl | exact TK.kk hT rfl | exact TK.r hT rfl | assumption) (by omega) rfl ?_
      refine wp_iconst (v := nI 1) (pc' := 20) rfl rfl rfl ?_
      refine wp_iret rfl rfl (by first | rfl | exact nar_if) ?_
      exact kk (by first | assumption) (by first | assumption)
    · intro h9
      refine wp_iconst (v := nI 0) (pc' := 13) rfl rfl rfl ?_
      refine wp_iret rfl rfl (by first | rfl | exact nar_if) ?_
      first | exact kk0 (Or.inl (by first | assumption)) | exact kk0 (Or.inr (by first | assumption))
theorem c_fault {d : Nat} {K : Nat → Nat × Nat} {I : Nat → Nat → Int32} {L : Nat → Nat → Int64} {R : Nat → Nat → Option Nat} {n s : Nat} {Q : Lo → Lm → Prop}  (hT : TK K R n) (kk : Q (.inl (some (.int (I 0 8)))) (K, I, L, R, n, s)) : Ok (d + 1) 14 [.ref 0] (K, I, L, R, n, s) Q := by
  have hb := TK.s1 hT
  obtain ⟨-, -, hn⟩ := id hT
  refine Ok.enter (F := F_14) (ls := [.ref 0]) rfl rfl ?_
  refine wp_aload0 (pc' := 1) rfl rfl ?_
  refine wp_getI (pc' := 4) rfl rfl (by first | exact TK.k1 hT rfl | exact TK.kk hT rfl | exact TK.r hT rfl | assumption) rfl ?_
  refine wp_iret rfl rfl rfl ?_
  exact kk
theorem c_tDrained {d : Nat} {K : Nat → Nat × Nat} {I : Nat → Nat → Int32} {L : Nat → Nat → Int64} {R : Nat → Nat → Option Nat} {n s : Nat} {Q : Lo → Lm → Prop}  (hT : TK K R n) (kk : Q (.inl (some (.int (drainC (I 1 11))))) (K, I, L, R, n, s)) : Ok (d + 4) 15 [.ref 0] (K, I, L, R, n, s) Q := by
  have hb := TK.s1 hT
  obtain ⟨-, -, hn⟩ := id hT
  refine Ok.enter (F := F_15) (ls := [.ref 0]) rfl rfl ?_
  refine wp_aload0 (pc' := 1) rfl rfl ?_
  refine wp_getRF (pc' := 4) rfl rfl (by first | exact TK.k1 hT rfl | exact TK.kk hT rfl | exact TK.r hT rfl | assumption) (by first | exact TK.k1 hT rfl | exact TK.kk hT rfl | exact TK.r hT rfl | assumption) rfl ?_
  refine wp_callV1 (pc' := 7) rfl rfl rfl rfl rfl (by first | exact TK.k1 hT rfl | exact TK.kk hT rfl | exact TK.r hT rfl | assumption) rfl rfl ?_
  refine c_drained hb ?_
  refine Cont.v ?_
  refine wp_iret rfl rfl rfl ?_
  exact kk
theorem c_tOpen {d : Nat} {K : Nat → Nat × Nat} {I : Nat → Nat → Int32} {L : Nat → Nat → Int64} {R : Nat → Nat → Option Nat} {n s : Nat} {Q : Lo → Lm → Prop}  (hT : TK K R n) (kk : Q (.inl (some (.int (openS (vw 1 I))))) (K, I, L, R, n, s)) : Ok (d + 3) 19 [.ref 0] (K, I, L, R, n, s) Q := by
  have hb := TK.s1 hT
  obtain ⟨-, -, hn⟩ := id hT
  refine Ok.enter (F := F_19) (ls := [.ref 0]) rfl rfl ?_
  refine wp_aload0 (pc' := 1) rfl rfl ?_
  refine wp_getRF (pc' := 4) rfl rfl (by first | exact TK.k1 hT rfl | exact TK.kk hT rfl | exact TK.r hT rfl | assumption) (by first | exact TK.k1 hT rfl | exact TK.kk hT rfl | exact TK.r hT rfl | assumption) rfl ?_
  refine wp_callV1 (pc' := 7) rfl rfl rfl rfl rfl (by first | exact TK.k1 hT rfl | exact TK.kk hT rfl | exact TK.r hT rfl | assumption) rfl rfl ?_
  refine c_openCells hb ?_
  refine Cont.v ?_
  refine wp_iret rfl rfl rfl ?_
  exact kk
theorem c_putNumber {d : Nat} {K : Nat → Nat × Nat} {I : Nat → Nat → Int32} {L : Nat → Nat → Int64} {R : Nat → Nat → Option Nat} {n s : Nat} {Q : Lo → Lm → Prop} {x : Int32} {T : Nat} (hT : TK K R n) (h7 : I 0 7 = nI T) (hT4 : T + 4 ≤ 400) (kk : Q (.inl none) (K, putM I T x, L, R, n, s)) : Ok (d + 1) 12 [.ref 0, .int x] (K, I, L, R, n, s) Q := by
  have hb := TK.s1 hT
  obtain ⟨-, -, hn⟩ := id hT
  refine Ok.enter (F := F_12) (ls := [.ref 0, .int x, lDead]) rfl rfl ?_
  refine wp_bipush (v := nI 24) (pc' := 2) rfl rfl rfl ?_
  refine wp_istore2 (pc' := 3) rfl (by first | rfl | assumption) rfl ?_
  refine wp_iload2 (pc' := 4) rfl rfl ?_
  refine wp_ifltF (pc' := 7) rfl (by decide) rfl ?_
  refine wp_aload0 (pc' := 8) rfl rfl ?_
  refine wp_getI (pc' := 11) rfl rfl (by first | exact TK.k1 hT rfl | exact TK.kk hT rfl | exact TK.r hT rfl | assumption) rfl ?_
  simp (disch := omega) only [up2_ne, up2_hit, h7]
  refine wp_sipush (v := nI 400) (pc' := 14) rfl rfl rfl ?_
  refine wp_icmpgeF (pc' := 17) rfl (nI_lt (by omega) (by decide)) rfl ?_
  refine wp_aload0 (pc' := 18) rfl rfl ?_
  refine wp_getRF (pc' := 21) rfl rfl (by first | exact TK.k1 hT rfl | exact TK.kk hT rfl | exact TK.r hT rfl | assumption) (by first | exact TK.k1 hT rfl | exact TK.kk hT rfl | exact TK.r hT rfl | assumption) rfl ?_
  refine wp_aload0 (pc' := 22) rfl rfl ?_
  refine wp_getI (pc' := 25) rfl rfl (by first | exact TK.k1 hT rfl | exact TK.kk hT rfl | exact TK.r hT rfl | assumption) rfl ?_
  simp (disch := omega) only [up2_ne, up2_hit, h7]
  refine wp_iload1 (pc' := 26) rfl rfl ?_
  refine wp_iload2 (pc' := 27) rfl rfl ?_
  refine wp_iushr (pc' := 28) rfl rfl ?_
  refine wp_sipush (v := nI 255) (pc' := 31) rfl rfl rfl ?_
  refine wp_iand (pc' := 32) rfl rfl ?_
  refine wp_iast _ (pc' := 33) rfl (by first | exact TK.k1 hT rfl | exact TK.kk hT rfl | exact TK.r hT rfl | assumption) (by omega) (by with_reducible rfl) (by omega) (by first | decide | assumption | omega) rfl ?_
  refine wp_aload0 (pc' := 34) rfl rfl ?_
  refine wp_dup (pc' := 35) rfl rfl rfl ?_
  refine wp_getI (pc' := 38) rfl rfl (by first | exact TK.k1 hT rfl | exact TK.kk hT rfl | exact TK.r hT rfl | assumption) rfl ?_
  simp (disch := omega) only [up2_ne, up2_hit, h7]
  refine wp_iconst (v := nI 1) (pc' := 39) rfl rfl rfl ?_
  first | refine wp_iaddN (pc' := 40) rfl (by with_reducible rfl) (by with_reducible rfl) rfl ?_ | refine wp_iadd (pc' := 40) rfl rfl ?_
  refine wp_putI (pc' := 43) rfl rfl (by first | exact TK.k1 hT rfl | exact TK.kk hT rfl | exact TK.r hT rfl | assumption) (by omega) rfl ?_
  first | refine wp_iinc2 (w := (-8)) (pc' := 46) rfl rfl rfl (by with_reducible exact nI_sub1 (by omega)) rfl ?_ | refine wp_iinc2 (w := (-8)) (pc' := 46) rfl rfl rfl rfl rfl ?_
  refine wp_goto rfl ?_
  refine wp_iload2 (pc' := 4) rfl rfl ?_
  refine wp_ifltF (pc' := 7) rfl (by decide) rfl ?_
  refine wp_aload0 (pc' := 8) rfl rfl ?_
  refine wp_getI (pc' := 11) rfl rfl (by first | exact TK.k1 hT rfl | exact TK.kk hT rfl | exact TK.r hT rfl | assumption) rfl ?_
  simp (disch := omega) only [up2_ne, up2_hit, h7]
  refine wp_sipush (v := nI 400) (pc' := 14) rfl rfl rfl ?_
  refine wp_icmpgeF (pc' := 17) rfl (nI_lt (by omega) (by decide)) rfl ?_
  refine wp_aload0 (pc' := 18) rfl rfl ?_
  refine wp_getRF (pc' := 21) rfl rfl (by first | exact TK.k1 hT rfl | exact TK.kk hT rfl | exact TK.r hT rfl | assumption) (by first | exact TK.k1 hT rfl | exact TK.kk hT rfl | exact TK.r hT rfl | assumption) rfl ?_
  refine wp_aload0 (pc' := 22) rfl rfl ?_
  refine wp_getI (pc' := 25) rfl rfl (by first | exact TK.k1 hT rfl | exact TK.kk hT rfl | exact TK.r hT rfl | assumption) rfl ?_
  simp (disch := omega) only [up2_ne, up2_hit, h7]
  refine wp_iload1 (pc' := 26) rfl rfl ?_
  refine wp_iload2 (pc' := 27) rfl rfl ?_
  refine wp_iushr (pc' := 28) rfl rfl ?_
  refine wp_sipush (v := nI 255) (pc' := 31) rfl rfl rfl ?_
  refine wp_iand (pc' := 32) rfl rfl ?_
  refine wp_iast _ (pc' := 33) rfl (by first | exact TK.k1 hT rfl | exact TK.kk hT rfl | exact TK.r hT rfl | assumption) (by omega) (by with_reducible rfl) (by omega) (by first | decide | assumption | omega) rfl ?_
  refine wp_aload0 (pc' := 34) rfl rfl ?_
  refine wp_dup (pc' := 35) rfl rfl rfl ?_
  refine wp_getI (pc' := 38) rfl rfl (by first | exact TK.k1 hT rfl | exact TK.kk hT rfl | exact TK.r hT rfl | assumption) rfl ?_
  simp (disch := omega) only [up2_ne, up2_hit, h7]
  refine wp_iconst (v := nI 1) (pc' := 39) rfl rfl rfl ?_
  first | refine wp_iaddN (pc' := 40) rfl (by with_reducible rfl) (by with_reducible rfl) rfl ?_ | refine wp_iadd (pc' := 40) rfl rfl ?_
  refine wp_putI (pc' := 43) rfl rfl (by first | exact TK.k1 hT rfl | exact TK.kk hT rfl | exact TK.r hT rfl | assumption) (by omega) rfl ?_
  first | refine wp_iinc2 (w := (-8)) (pc' := 46) rfl rfl rfl (by with_reducible exact nI_sub1 (by omega)) rfl ?_ | refine wp_iinc2 (w := (-8)) (pc' := 46) rfl rfl rfl rfl rfl ?_
  refine wp_goto rfl ?_
  refine wp_iload2 (pc' := 4) rfl rfl ?_
  refine wp_ifltF (pc' := 7) rfl (by decide) rfl ?_
  refine wp_aload0 (pc' := 8) rfl rfl ?_
  refine wp_getI (pc' := 11) rfl rfl (by first | exact TK.k1 hT rfl | exact TK.kk hT rfl | exact TK.r hT rfl | assumption) rfl ?_
  simp (disch := omega) only [up2_ne, up2_hit, h7]
  refine wp_sipush (v := nI 400) (pc' := 14) rfl rfl rfl ?_
  refine wp_icmpgeF (pc' := 17) rfl (nI_lt (by omega) (by decide)) rfl ?_
  refine wp_aload0 (pc' := 18) rfl rfl ?_
  refine wp_getRF (pc' := 21) rfl rfl (by first | exact TK.k1 hT rfl | exact TK.kk hT rfl | exact TK.r hT rfl | assumption) (by first | exact TK.k1 hT rfl | exact TK.kk hT rfl | exact TK.r hT rfl | assumption) rfl ?_
  refine wp_aload0 (pc' := 22) rfl rfl ?_
  refine wp_getI (pc' := 25) rfl rfl (by first | exact TK.k1 hT rfl | exact TK.kk hT rfl | exact TK.r hT rfl | assumption) rfl ?_
  simp (disch := omega) only [up2_ne, up2_hit, h7]
  refine wp_iload1 (pc' := 26) rfl rfl ?_
  refine wp_iload2 (pc' := 27) rfl rfl ?_
  refine wp_iushr (pc' := 28) rfl rfl ?_
  refine wp_sipush (v := nI 255) (pc' := 31) rfl rfl rfl ?_
  refine wp_iand (pc' := 32) rfl rfl ?_
  refine wp_iast _ (pc' := 33) rfl (by first | exact TK.k1 hT rfl | exact TK.kk hT rfl | exact TK.r hT rfl | assumption) (by omega) (by with_reducible rfl) (by omega) (by first | decide | assumption | omega) rfl ?_
  refine wp_aload0 (pc' := 34) rfl rfl ?_
  refine wp_dup (pc' := 35) rfl rfl rfl ?_
  refine wp_getI (pc' := 38) rfl rfl (by first | exact TK.k1 hT rfl | exact TK.kk hT rfl | exact TK.r hT rfl | assumption) rfl ?_
  simp (disch := omega) only [up2_ne, up2_hit, h7]
  refine wp_iconst (v := nI 1) (pc' := 39) rfl rfl rfl ?_
  first | refine wp_iaddN (pc' := 40) rfl (by with_reducible rfl) (by with_reducible rfl) rfl ?_ | refine wp_iadd (pc' := 40) rfl rfl ?_
  refine wp_putI (pc' := 43) rfl rfl (by first | exact TK.k1 hT rfl | exact TK.kk hT rfl | exact TK.r hT rfl | assumption) (by omega) rfl ?_
  first | refine wp_iinc2 (w := (-8)) (pc' := 46) rfl rfl rfl (by with_reducible exact nI_sub1 (by omega)) rfl ?_ | refine wp_iinc2 (w := (-8)) (pc' := 46) rfl rfl rfl rfl rfl ?_
  refine wp_goto rfl ?_
  refine wp_iload2 (pc' := 4) rfl rfl ?_
  refine wp_ifltF (pc' := 7) rfl (by decide) rfl ?_
  refine wp_aload0 (pc' := 8) rfl rfl ?_
  refine wp_getI (pc' := 11) rfl rfl (by first | exact TK.k1 hT rfl | exact TK.kk hT rfl | exact TK.r hT rfl | assumption) rfl ?_
  simp (disch := omega) only [up2_ne, up2_hit, h7]
  refine wp_sipush (v := nI 400) (pc' := 14) rfl rfl rfl ?_
  refine wp_icmpgeF (pc' := 17) rfl (nI_lt (by omega) (by decide)) rfl ?_
  refine wp_aload0 (pc' := 18) rfl rfl ?_
  refine wp_getRF (pc' := 21) rfl rfl (by first | exact TK.k1 hT rfl | exact TK.kk hT rfl | exact TK.r hT rfl | assumption) (by first | exact TK.k1 hT rfl | exact TK.kk hT rfl | exact TK.r hT rfl | assumption) rfl ?_
  refine wp_aload0 (pc' := 22) rfl rfl ?_
  refine wp_getI (pc' := 25) rfl rfl (by first | exact TK.k1 hT rfl | exact TK.kk hT rfl | exact TK.r hT rfl | assumption) rfl ?_
  simp (disch := omega) only [up2_ne, up2_hit, h7]
  refine wp_iload1 (pc' := 26) rfl rfl ?_
  refine wp_iload2 (pc' := 27) rfl rfl ?_
  refine wp_iushr (pc' := 28) rfl rfl ?_
  refine wp_sipush (v := nI 255) (pc' := 31) rfl rfl rfl ?_
  refine wp_iand (pc' := 32) rfl rfl ?_
  refine wp_iast _ (pc' := 33) rfl (by first | exact TK.k1 hT rfl | exact TK.kk hT rfl | exact TK.r hT rfl | assumption) (by omega) (by with_reducible rfl) (by omega) (by first | decide | assumption | omega) rfl ?_
  refine wp_aload0 (pc' := 34) rfl rfl ?_
  refine wp_dup (pc' := 35) rfl rfl rfl ?_
  refine wp_getI (pc' := 38) rfl rfl (by first | exact TK.k1 hT rfl | exact TK.kk hT rfl | exact TK.r hT rfl | assumption) rfl ?_
  simp (disch := omega) only [up2_ne, up2_hit, h7]
  refine wp_iconst (v := nI 1) (pc' := 39) rfl rfl rfl ?_
  first | refine wp_iaddN (pc' := 40) rfl (by with_reducible rfl) (by with_reducible rfl) rfl ?_ | refine wp_iadd (pc' := 40) rfl rfl ?_
  refine wp_putI (pc' := 43) rfl rfl (by first | exact TK.k1 hT rfl | exact TK.kk hT rfl | exact TK.r hT rfl | assumption) (by omega) rfl ?_
  first | refine wp_iinc2 (w := (-8)) (pc' := 46) rfl rfl rfl (by with_reducible exact nI_sub1 (by omega)) rfl ?_ | refine wp_iinc2 (w := (-8)) (pc' := 46) rfl rfl rfl rfl rfl ?_
  refine wp_goto rfl ?_
  refine wp_iload2 (pc' := 4) rfl rfl ?_
  refine wp_ifltT rfl (by decide) ?_
  refine wp_vret rfl rfl ?_
  exact kk
theorem c_feed {d : Nat} {K : Nat → Nat × Nat} {I : Nat → Nat → Int32} {L : Nat → Nat → Int64} {R : Nat → Nat → Option Nat} {n s : Nat} {Q : Lo → Lm → Prop} {v0 v1 v2 v3 v4 : Int32} {T : Nat} (hT : TK K R n) (h7 : I 0 7 = nI T) (hT4 : T ≤ 400) (kk0 : 400 < T + 20 → Q (.inl (some (.int (-1)))) (K, I, L, R, n, s)) (kk : T + 20 ≤ 400 → Q (.inl (some (.int (nI (T + 20))))) (K, feedM I T v0 v1 v2 v3 v4, L, R, n, s)) : Ok (d + 2) 11 [.ref 0, .int v0, .int v1, .int v2, .int v3, .int v4] (K, I, L, R, n, s) Q := by
  have hb := TK.s1 hT
  obtain ⟨-, -, hn⟩ := id hT
  refine Ok.enter (F := F_11) (ls := [.ref 0, .int v0, .int v1, .int v2, .int v3, .int v4]) rfl rfl ?_
  refine wp_aload0 (pc' := 1) rfl rfl ?_
  refine wp_getI (pc' := 4) rfl rfl (by first | exact TK.k1 hT rfl | exact TK.kk hT rfl | exact TK.r hT rfl | assumption) rfl ?_
  rw [h7]
  refine wp_bipush (v := nI 20) (pc' := 6) rfl rfl rfl ?_
  first | refine wp_iaddN (pc' := 7) rfl (by with_reducible rfl) (by with_reducible rfl) rfl ?_ | refine wp_iadd (pc' := 7) rfl rfl ?_
  refine wp_sipush (v := nI 400) (pc' := 10) rfl rfl rfl ?_
  refine wp_icmple (pc' := 13) rfl rfl ?_ ?_
  · intro h10
    have hle : T + 20 ≤ 400 := Nat.le_of_not_lt (fun z => absurd (nI_lt z (by omega)) h10)
    refine wp_aload0 (pc' := 16) rfl rfl ?_
    refine wp_iload1 (pc' := 17) rfl rfl ?_
    refine wp_callV2 (pc' := 20) rfl rfl rfl rfl rfl (by first | exact TK.k1 hT rfl | exact TK.kk hT rfl | exact TK.r hT rfl | assumption) rfl rfl ?_
    refine c_putNumber (T := T) hT (by first | assumption | exact putM_7) (by omega) ?_
    refine Cont.u ?_
    refine wp_aload0 (pc' := 21) rfl rfl ?_
    refine wp_iload2 (pc' := 22) rfl rfl ?_
    refine wp_callV2 (pc' := 25) rfl rfl rfl rfl rfl (by first | exact TK.k1 hT rfl | exact TK.kk hT rfl | exact TK.r hT rfl | assumption) rfl rfl ?_
    refine c_putNumber (T := T + 4) hT (by first | assumption | exact putM_7) (by omega) ?_
    refine Cont.u ?_
    refine wp_aload0 (pc' := 26) rfl rfl ?_
    refine wp_iload3 (pc' := 27) rfl rfl ?_
    refine wp_callV2 (pc' := 30) rfl rfl rfl rfl rfl (by first | exact TK.k1 hT rfl | exact TK.kk hT rfl | exact TK.r hT rfl | assumption) rfl rfl ?_
    refine c_putNumber (T := T + 8) hT (by first | assumption | exact putM_7) (by omega) ?_
    refine Cont.u ?_
    refine wp_aload0 (pc' := 31) rfl rfl ?_
    refine wp_iload4 (pc' := 33) rfl rfl ?_
    refine wp_callV2 (pc' := 36) rfl rfl rfl rfl rfl (by first | exact TK.k1 hT rfl | exact TK.kk hT rfl | exact TK.r hT rfl | assumption) rfl rfl ?_
    refine c_putNumber (T := T + 12) hT (by first | assumption | exact putM_7) (by omega) ?_
    refine Cont.u ?_
    refine wp_aload0 (pc' := 37) rfl rfl ?_
    refine wp_iload5 (pc' := 39) rfl rfl ?_
    refine wp_callV2 (pc' := 42) rfl rfl rfl rfl rfl (by first | exact TK.k1 hT rfl | exact TK.kk hT rfl | exact TK.r hT rfl | assumption) rfl rfl ?_
    refine c_putNumber (T := T + 16) hT (by first | assumption | exact putM_7) (by omega) ?_
    refine Cont.u ?_
    refine wp_aload0 (pc' := 43) rfl rfl ?_
    refine wp_getI (pc' := 46) rfl rfl (by first | exact TK.k1 hT rfl | exact TK.kk hT rfl | exact TK.r hT rfl | assumption) rfl ?_
    refine wp_iret rfl rfl rfl ?_
    exact Qv (kk hle) putM_7 rfl
  · intro h10
    refine wp_iconst (v := (-1)) (pc' := 14) rfl rfl rfl ?_
    refine wp_iret rfl rfl rfl ?_
    exact kk0 ((nI_ltI (by omega) (by omega)).mp (by first | assumption))
theorem c_nimSum {d : Nat} {K : Nat → Nat × Nat} {I : Nat → Nat → Int32} {L : Nat → Nat → Int64} {R : Nat → Nat → Option Nat} {n s : Nat} {Q : Lo → Lm → Prop} {x : Int32} (hT : TK K R n) (kk : Q (.inl (some (.int (nimC (I 2) x)))) (K, I, L, R, n, s)) : Ok (d + 1) 44 [.ref 0, .int x] (K, I, L, R, n, s) Q := by
  have hb := TK.s1 hT
  obtain ⟨-, -, hn⟩ := id hT
  refine Ok.enter (F := F_44) (ls := [.ref 0, .int x, lDead, lDead]) rfl rfl ?_
  refine wp_iconst (v := nI 0) (pc' := 1) rfl rfl rfl ?_
  refine wp_istore2 (pc' := 2) rfl (by first | rfl | assumption) rfl ?_
  refine wp_iconst (v := nI 0) (pc' := 3) rfl rfl rfl ?_
  refine wp_istore3 (pc' := 4) rfl (by first | rfl | assumption) rfl ?_
  have lp4 : ∀ r (i : Nat), i + r = 25 → WP d F_44 4 [.ref 0, .int x, .int (forN (fun c f => if hasP x c then f ^^^ jrem (I 2 c) (nI 4) else f) (nI 0) i), .int (nI i)] [] (K, I, L, R, n, s) Q := by
    intro r; induction r with
    | zero =>
      intro i hi 
      have hi2 : i = 25 := by omega
      subst hi2
      refine wp_iload3 (pc' := 5) rfl rfl ?_
      refine wp_bipush (v := nI 25) (pc' := 7) rfl rfl rfl ?_
      refine wp_icmpgeT rfl (nI_nlt (by omega) (by omega)) ?_
      refine wp_iload2 (pc' := 40) rfl rfl ?_
      refine wp_iret rfl rfl rfl ?_
      exact kk
    | succ r ih =>
      intro i hi 
      have hlt : i < 25 := by omega
      refine wp_iload3 (pc' := 5) rfl rfl ?_
      refine wp_bipush (v := nI 25) (pc' := 7) rfl rfl rfl ?_
      refine wp_icmpgeF (pc' := 10) rfl (nI_lt (by omega) (by omega)) rfl ?_
      refine wp_iload1 (pc' := 11) rfl rfl ?_
      refine wp_iload3 (pc' := 12) rfl rfl ?_
      refine wp_ishr (pc' := 13) rfl rfl ?_
      refine wp_iconst (v := nI 1) (pc' := 14) rfl rfl rfl ?_
      refine wp_iand (pc' := 15) rfl rfl ?_
      refine wp_iconst (v := nI 1) (pc' := 16) rfl rfl rfl ?_
      refine wp_icmpne (pc' := 19) rfl rfl ?_ ?_
      · intro h16
        first | refine wp_iinc3 (w := nI 1) (pc' := 36) rfl rfl rfl (by with_reducible exact nI_add _ _) rfl ?_ | refine wp_iinc3 (w := nI 1) (pc' := 36) rfl rfl rfl rfl rfl ?_
        refine wp_goto rfl ?_
        exact WP.cg (ih (i + 1) (by omega)) (lC1 (lI1 (by first | with_reducible rfl | (simp only [forN, *, ↓reduceIte, not_true_eq_false, not_false_eq_true, and_self, and_true, true_and, and_false, false_and]; done) | rfl | (simp_all [forN]; done)) (lI1 (by first | with_reducible rfl | (simp only [forN, *, ↓reduceIte, not_true_eq_false, not_false_eq_true, and_self, and_true, true_and, and_false, false_and]; done) | rfl | (simp_all [forN]; done)) (lI1 (by first | with_reducible rfl | (simp only [forN, *, ↓reduceIte, not_true_eq_false, not_false_eq_true, and_self, and_true, true_and, and_false, false_and]; done) | rfl | (simp_all [forN]; done)) rfl)))) rfl (by first | with_reducible rfl | (simp only [forN, *, ↓reduceIte, not_true_eq_false, not_false_eq_true, and_self, and_true, true_and, and_false, false_and]; done) | rfl | (simp_all [forN]; done))
      · intro h16
        refine wp_iload2 (pc' := 20) rfl rfl ?_
        refine wp_aload0 (pc' := 21) rfl rfl ?_
        refine wp_getRF (pc' := 24) rfl rfl (by first | exact TK.k1 hT rfl | exact TK.kk hT rfl | exact TK.r hT rfl | assumption) (by first | exact TK.k1 hT rfl | exact TK.kk hT rfl | exact TK.r hT rfl | assumption) rfl ?_
        refine wp_getRF (pc' := 27) rfl rfl (by first | exact TK.k1 hT rfl | exact TK.kk hT rfl | exact TK.r hT rfl | assumption) (by first | exact TK.k1 hT rfl | exact TK.kk hT rfl | exact TK.r hT rfl | assumption) rfl ?_
        refine wp_iload3 (pc' := 28) rfl rfl ?_
        refine wp_iald _ (pc' := 29) rfl (by first | exact TK.k1 hT rfl | exact TK.kk hT rfl | exact TK.r hT rfl | assumption) (by with_reducible rfl) (by omega) (by first | decide | assumption | omega) rfl ?_
        refine wp_iconst (v := nI 4) (pc' := 30) rfl rfl rfl ?_
        first | refine wp_iremN (pc' := 31) rfl (by with_reducible rfl) (by with_reducible rfl) (by omega) (by omega) (by omega) rfl ?_ | refine wp_irem (pc' := 31) rfl (by decide) rfl ?_
        refine wp_ixor (pc' := 32) rfl rfl ?_
        refine wp_istore2 (pc' := 33) rfl (by first | rfl | assumption) rfl ?_
        first | refine wp_iinc3 (w := nI 1) (pc' := 36) rfl rfl rfl (by with_reducible exact nI_add _ _) rfl ?_ | refine wp_iinc3 (w := nI 1) (pc' := 36) rfl rfl rfl rfl rfl ?_
        refine wp_goto rfl ?_
        exact WP.cg (ih (i + 1) (by omega)) (lC1 (lI1 (by first | with_reducible rfl | (simp only [forN, *, ↓reduceIte, not_true_eq_false, not_false_eq_true, and_self, and_true, true_and, and_false, false_and]; done) | rfl | (simp_all [forN]; done)) (lI1 (by first | with_reducible rfl | (simp only [forN, *, ↓reduceIte, not_true_eq_false, not_false_eq_true, and_self, and_true, true_and, and_false, false_and]; done) | rfl | (simp_all [forN]; done)) (lI1 (by first | with_reducible rfl | (simp only [forN, *, ↓reduceIte, not_true_eq_false, not_false_eq_true, and_self, and_true, true_and, and_false, false_and]; done) | rfl | (simp_all [forN]; done)) rfl)))) rfl (by first | with_reducible rfl | (simp only [forN, *, ↓reduceIte, not_true_eq_false, not_false_eq_true, and_self, and_true, true_and, and_false, false_and]; done) | rfl | (simp_all [forN]; done))
  exact WP.cg (lp4 (25 - (0)) (0) (by omega)) (lC1 (lI1 (by first | with_reducible rfl | (simp only [forN, *, ↓reduceIte, not_true_eq_false, not_false_eq_true, and_self, and_true, true_and, and_false, false_and]; done) | rfl | (simp_all [forN]; done)) (lI1 (by first | with_reducible rfl | (simp only [forN, *, ↓reduceIte, not_true_eq_false, not_false_eq_true, and_self, and_true, true_and, and_false, false_and]; done) | rfl | (simp_all [forN]; done)) (lI1 (by first | with_reducible rfl | (simp only [forN, *, ↓reduceIte, not_true_eq_false, not_false_eq_true, and_self, and_true, true_and, and_false, false_and]; done) | rfl | (simp_all [forN]; done)) rfl)))) rfl (by first | with_reducible rfl | (simp only [forN, *, ↓reduceIte, not_true_eq_false, not_false_eq_true, and_self, and_true, true_and, and_false, false_and]; done) | rfl | (simp_all [forN]; done))
theorem c_last {d : Nat} {K : Nat → Nat × Nat} {I : Nat → Nat → Int32} {L : Nat → Nat → Int64} {R : Nat → Nat → Option Nat} {n s : Nat} {Q : Lo → Lm → Prop} {x : Int32} (hT : TK K R n) (kk : Q (.inl (some (.int (if ¬ nimC (I 2) x = nI 0 then nI 1 else nI 0)))) (K, I, L, R, n, s)) : Ok (d + 2) 43 [.ref 0, .int x] (K, I, L, R, n, s) Q := by
  have hb := TK.s1 hT
  obtain ⟨-, -, hn⟩ := id hT
  refine Ok.enter (F := F_43) (ls := [.ref 0, .int x]) rfl rfl ?_
  refine wp_aload0 (pc' := 1) rfl rfl ?_
  refine wp_iload1 (pc' := 2) rfl rfl ?_
  refine wp_callV2 (pc' := 5) rfl rfl rfl rfl rfl (by first | exact TK.k1 hT rfl | exact TK.kk hT rfl | exact TK.r hT rfl | assumption) rfl rfl ?_
  refine c_nimSum hT ?_
  refine Cont.v ?_
  first | refine wp_ifeqB (pc' := 8) rfl rfl ?_ ?_ | refine wp_ifeq (pc' := 8) rfl rfl ?_ ?_
  · intro h5
    refine wp_iconst (v := nI 0) (pc' := 13) rfl rfl rfl ?_
    refine wp_iret rfl rfl (by first | rfl | exact nar_if) ?_
    exact Qv kk (by first | rfl | (simp +decide only [*, ↓reduceIte, and_self, and_true, true_and, and_false, false_and, not_true_eq_false, not_false_eq_true]; done) | (simp_all []; done)) rfl
  · intro h5
    refine wp_iconst (v := nI 1) (pc' := 9) rfl rfl rfl ?_
    refine wp_goto rfl ?_
    refine wp_iret rfl rfl (by first | rfl | exact nar_if) ?_
    exact Qv kk (by first | rfl | (simp +decide only [*, ↓reduceIte, and_self, and_true, true_and, and_false, false_and, not_true_eq_false, not_false_eq_true]; done) | (simp_all []; done)) rfl
theorem c_spit {d : Nat} {K : Nat → Nat × Nat} {I : Nat → Nat → Int32} {L : Nat → Nat → Int64} {R : Nat → Nat → Option Nat} {n s : Nat} {Q : Lo → Lm → Prop} {x : Int32} (hT : TK K R n) (kk : Q (.inl (some (.int (spitC (I 2) x)))) (K, I, L, R, n, s)) : Ok (d + 2) 45 [.ref 0, .int x] (K, I, L, R, n, s) Q := by
  have hb := TK.s1 hT
  obtain ⟨-, -, hn⟩ := id hT
  refine Ok.enter (F := F_45) (ls := [.ref 0, .int x, lDead, lDead, lDead, lDead]) rfl rfl ?_
  refine wp_aload0 (pc' := 1) rfl rfl ?_
  refine wp_iload1 (pc' := 2) rfl rfl ?_
  refine wp_callV2 (pc' := 5) rfl rfl rfl rfl rfl (by first | exact TK.k1 hT rfl | exact TK.kk hT rfl | exact TK.r hT rfl | assumption) rfl rfl ?_
  refine c_nimSum hT ?_
  refine Cont.v ?_
  refine wp_istore2 (pc' := 6) rfl (by first | rfl | assumption) rfl ?_
  refine wp_iload2 (pc' := 7) rfl rfl ?_
  first | refine wp_ifneB (pc' := 10) rfl rfl ?_ ?_ | refine wp_ifne (pc' := 10) rfl rfl ?_ ?_
  · intro h7
    refine wp_iconst (v := nI 0) (pc' := 13) rfl rfl rfl ?_
    refine wp_istore3 (pc' := 14) rfl (by first | rfl | assumption) rfl ?_
    have lp14 : ∀ r (i : Nat) (v4 : Value) (v5 : Value), i + r = 25 → spitO (I 2) x r i = spitO (I 2) x 25 0 → isL v4 = false → isL v5 = false → WP (d + 1) F_45 14 [.ref 0, .int x, .int (nimC (I 2) x), .int (nI i), v4, v5] [] (K, I, L, R, n, s) Q := by
      intro r; induction r with
      | zero =>
        intro i v4 v5 hi hv0 hv1 hv2
        have hi2 : i = 25 := by omega
        subst hi2
        refine wp_iload3 (pc' := 15) rfl rfl ?_
        refine wp_bipush (v := nI 25) (pc' := 17) rfl rfl rfl ?_
        refine wp_icmpgeT rfl (nI_nlt (by omega) (by omega)) ?_
        refine wp_iconst (v := (-1)) (pc' := 97) rfl rfl rfl ?_
        refine wp_iret rfl rfl rfl ?_
        exact Qv kk (by unfold spitC; rw [if_neg h7]; exact hv0) rfl
      | succ r ih =>
        intro i v4 v5 hi hv0 hv1 hv2
        have hlt : i < 25 := by omega
        have hnx : spitI (nimC (I 2) x) (spitD (I 2) x i) i 3 1 = none → spitO (I 2) x r (i + 1) = spitO (I 2) x 25 0 := fun q => by rw [spitO, q] at hv0; exact hv0
        have hyx : ∀ v, spitI (nimC (I 2) x) (spitD (I 2) x i) i 3 1 = some v → v = spitO (I 2) x 25 0 := fun v q => by rw [spitO, q] at hv0; exact hv0
        refine wp_iload3 (pc' := 15) rfl rfl ?_
        refine wp_bipush (v := nI 25) (pc' := 17) rfl rfl rfl ?_
        refine wp_icmpgeF (pc' := 20) rfl (nI_lt (by omega) (by omega)) rfl ?_
        refine wp_iload1 (pc' := 21) rfl rfl ?_
        refine wp_iload3 (pc' := 22) rfl rfl ?_
        refine wp_ishr (pc' := 23) rfl rfl ?_
        refine wp_iconst (v := nI 1) (pc' := 24) rfl rfl rfl ?_
        refine wp_iand (pc' := 25) rfl rfl ?_
        refine wp_iconst (v := nI 1) (pc' := 26) rfl rfl rfl ?_
        refine wp_icmpne (pc' := 29) rfl rfl ?_ ?_
        · intro h26
          refine wp_iconst (v := nI 0) (pc' := 42) rfl rfl rfl ?_
          refine wp_istore4 (pc' := 44) rfl (by first | rfl | assumption) rfl ?_
          refine wp_iconst (v := nI 1) (pc' := 45) rfl rfl rfl ?_
          refine wp_istore5 (pc' := 47) rfl (by first | rfl | assumption) rfl ?_
          have lp47 : ∀ rb (j : Nat), j + rb = 4 → spitI (nimC (I 2) x) (spitD (I 2) x i) i rb j = spitI (nimC (I 2) x) (spitD (I 2) x i) i 3 1 → WP (d + 1) F_45 47 [.ref 0, .int x, .int (nimC (I 2) x), .int (nI i), .int (spitD (I 2) x i), .int (nI j)] [] (K, I, L, R, n, s) Q := by
            intro rb; induction rb with
            | zero =>
              intro j hib hvb0
              have hi2b : j = 4 := by omega
              subst hi2b
              refine wp_iload5 (pc' := 49) rfl rfl ?_
              refine wp_iconst (v := nI 3) (pc' := 50) rfl rfl rfl ?_
              refine wp_icmpgtT rfl (nI_lt (by omega) (by omega)) ?_
              first | refine wp_iinc3 (w := nI 1) (pc' := 93) rfl rfl rfl (by with_reducible exact nI_add _ _) rfl ?_ | refine wp_iinc3 (w := nI 1) (pc' := 93) rfl rfl rfl rfl rfl ?_
              refine wp_goto rfl ?_
              exact WP.cg (ih (i + 1) _ _ (by omega) (hnx (by first | exact hvb0.symm | (rw [spitI, if_pos (by first | assumption)] at hvb0; exact hvb0.symm))) (by first | rfl | assumption) (by first | rfl | assumption)) (lC1 (lI1 (by first | with_reducible rfl | (simp only [forN, *, ↓reduceIte, not_true_eq_false, not_false_eq_true, and_self, and_true, true_and, and_false, false_and]; done) | rfl | (simp_all [forN]; done)) (lI1 (by first | with_reducible rfl | (simp only [forN, *, ↓reduceIte, not_true_eq_false, not_false_eq_true, and_self, and_true, true_and, and_false, false_and]; done) | rfl | (simp_all [forN]; done)) (lI1 (by first | with_reducible rfl | (simp only [forN, *, ↓reduceIte, not_true_eq_false, not_false_eq_true, and_self, and_true, true_and, and_false, false_and]; done) | rfl | (simp_all [forN]; done)) (lC1 (lC1 rfl)))))) rfl (by first | with_reducible rfl | (simp only [forN, *, ↓reduceIte, not_true_eq_false, not_false_eq_true, and_self, and_true, true_and, and_false, false_and]; done) | rfl | (simp_all [forN]; done))
            | succ rb ihb =>
              intro j hib hvb0
              have hltb : j < 4 := by omega
              refine wp_iload5 (pc' := 49) rfl rfl ?_
              refine wp_iconst (v := nI 3) (pc' := 50) rfl rfl rfl ?_
              refine wp_icmpgtF (pc' := 53) rfl (nI_nlt (by omega) (by omega)) rfl ?_
              refine wp_iload5 (pc' := 55) rfl rfl ?_
              refine wp_iload4 (pc' := 57) rfl rfl ?_
              refine wp_icmpgt (pc' := 60) rfl rfl ?_ ?_
              · intro h57
                first | refine wp_iinc3 (w := nI 1) (pc' := 93) rfl rfl rfl (by with_reducible exact nI_add _ _) rfl ?_ | refine wp_iinc3 (w := nI 1) (pc' := 93) rfl rfl rfl rfl rfl ?_
                refine wp_goto rfl ?_
                exact WP.cg (ih (i + 1) _ _ (by omega) (hnx (by first | exact hvb0.symm | (rw [spitI, if_pos (by first | assumption)] at hvb0; exact hvb0.symm))) (by first | rfl | assumption) (by first | rfl | assumption)) (lC1 (lI1 (by first | with_reducible rfl | (simp only [forN, *, ↓reduceIte, not_true_eq_false, not_false_eq_true, and_self, and_true, true_and, and_false, false_and]; done) | rfl | (simp_all [forN]; done)) (lI1 (by first | with_reducible rfl | (simp only [forN, *, ↓reduceIte, not_true_eq_false, not_false_eq_true, and_self, and_true, true_and, and_false, false_and]; done) | rfl | (simp_all [forN]; done)) (lI1 (by first | with_reducible rfl | (simp only [forN, *, ↓reduceIte, not_true_eq_false, not_false_eq_true, and_self, and_true, true_and, and_false, false_and]; done) | rfl | (simp_all [forN]; done)) (lC1 (lC1 rfl)))))) rfl (by first | with_reducible rfl | (simp only [forN, *, ↓reduceIte, not_true_eq_false, not_false_eq_true, and_self, and_true, true_and, and_false, false_and]; done) | rfl | (simp_all [forN]; done))
              · intro h57
                refine wp_iload2 (pc' := 61) rfl rfl ?_
                refine wp_iload4 (pc' := 63) rfl rfl ?_
                refine wp_iconst (v := nI 4) (pc' := 64) rfl rfl rfl ?_
                first | refine wp_iremN (pc' := 65) rfl (by with_reducible rfl) (by with_reducible rfl) (by omega) (by omega) (by omega) rfl ?_ | refine wp_irem (pc' := 65) rfl (by decide) rfl ?_
                refine wp_ixor (pc' := 66) rfl rfl ?_
                refine wp_iload4 (pc' := 68) rfl rfl ?_
                refine wp_iload5 (pc' := 70) rfl rfl ?_
                first | refine wp_isubN (pc' := 71) rfl (by with_reducible rfl) (by with_reducible rfl) (by omega) rfl ?_ | refine wp_isub (pc' := 71) rfl rfl ?_
                refine wp_iconst (v := nI 4) (pc' := 72) rfl rfl rfl ?_
                first | refine wp_iremN (pc' := 73) rfl (by with_reducible rfl) (by with_reducible rfl) (by omega) (by omega) (by omega) rfl ?_ | refine wp_irem (pc' := 73) rfl (by decide) rfl ?_
                refine wp_ixor (pc' := 74) rfl rfl ?_
                first | refine wp_ifneB (pc' := 77) rfl rfl ?_ ?_ | refine wp_ifne (pc' := 77) rfl rfl ?_ ?_
                · intro h74
                  first | refine wp_iinc5 (w := nI 1) (pc' := 87) rfl rfl rfl (by with_reducible exact nI_add _ _) rfl ?_ | refine wp_iinc5 (w := nI 1) (pc' := 87) rfl rfl rfl rfl rfl ?_
                  refine wp_goto rfl ?_
                  exact WP.cg (ihb (j + 1) (by omega) (by rw [spitI, if_neg (by first | assumption), if_neg (by first | assumption)] at hvb0; exact hvb0)) (lC1 (lI1 (by first | with_reducible rfl | (simp only [forN, *, ↓reduceIte, not_true_eq_false, not_false_eq_true, and_self, and_true, true_and, and_false, false_and]; done) | rfl | (simp_all [forN]; done)) (lI1 (by first | with_reducible rfl | (simp only [forN, *, ↓reduceIte, not_true_eq_false, not_false_eq_true, and_self, and_true, true_and, and_false, false_and]; done) | rfl | (simp_all [forN]; done)) (lI1 (by first | with_reducible rfl | (simp only [forN, *, ↓reduceIte, not_true_eq_false, not_false_eq_true, and_self, and_true, true_and, and_false, false_and]; done) | rfl | (simp_all [forN]; done)) (lI1 (by first | with_reducible rfl | (simp only [forN, *, ↓reduceIte, not_true_eq_false, not_false_eq_true, and_self, and_true, true_and, and_false, false_and]; done) | rfl | (simp_all [forN]; done)) (lI1 (by first | with_reducible rfl | (simp only [forN, *, ↓reduceIte, not_true_eq_false, not_false_eq_true, and_self, and_true, true_and, and_false, false_and]; done) | rfl | (simp_all [forN]; done)) rfl)))))) rfl (by first | with_reducible rfl | (simp only [forN, *, ↓reduceIte, not_true_eq_false, not_false_eq_true, and_self, and_true, true_and, and_false, false_and]; done) | rfl | (simp_all [forN]; done))
                · intro h74
                  refine wp_iconst (v := nI 4) (pc' := 78) rfl rfl rfl ?_
                  refine wp_iload3 (pc' := 79) rfl rfl ?_
                  first | refine wp_imulN (pc' := 80) rfl (by with_reducible rfl) (by with_reducible rfl) rfl ?_ | refine wp_imul (pc' := 80) rfl rfl ?_
                  refine wp_iload5 (pc' := 82) rfl rfl ?_
                  first | refine wp_iaddN (pc' := 83) rfl (by with_reducible rfl) (by with_reducible rfl) rfl ?_ | refine wp_iadd (pc' := 83) rfl rfl ?_
                  refine wp_iret rfl rfl rfl ?_
                  exact Qv kk (by unfold spitC; rw [if_neg h7]; exact hyx _ (by rw [spitI, if_neg (by first | assumption), if_pos (by first | assumption)] at hvb0; exact hvb0.symm)) rfl
          exact WP.cg (lp47 (4 - (1)) (1) (by omega) rfl) (lC1 (lI1 (by first | rfl | (simp only [spitD, hasP, *, ↓reduceIte]; done)) (lI1 (by first | rfl | (simp only [spitD, hasP, *, ↓reduceIte]; done)) (lI1 (by first | rfl | (simp only [spitD, hasP, *, ↓reduceIte]; done)) (lI1 (by first | rfl | (simp only [spitD, hasP, *, ↓reduceIte]; done)) (lI1 (by first | rfl | (simp only [spitD, hasP, *, ↓reduceIte]; done)) rfl)))))) rfl (by first | with_reducible rfl | (simp only [forN, *, ↓reduceIte, not_true_eq_false, not_false_eq_true, and_self, and_true, true_and, and_false, false_and]; done) | rfl | (simp_all [forN]; done))
        · intro h26
          refine wp_aload0 (pc' := 30) rfl rfl ?_
          refine wp_getRF (pc' := 33) rfl rfl (by first | exact TK.k1 hT rfl | exact TK.kk hT rfl | exact TK.r hT rfl | assumption) (by first | exact TK.k1 hT rfl | exact TK.kk hT rfl | exact TK.r hT rfl | assumption) rfl ?_
          refine wp_getRF (pc' := 36) rfl rfl (by first | exact TK.k1 hT rfl | exact TK.kk hT rfl | exact TK.r hT rfl | assumption) (by first | exact TK.k1 hT rfl | exact TK.kk hT rfl | exact TK.r hT rfl | assumption) rfl ?_
          refine wp_iload3 (pc' := 37) rfl rfl ?_
          refine wp_iald _ (pc' := 38) rfl (by first | exact TK.k1 hT rfl | exact TK.kk hT rfl | exact TK.r hT rfl | assumption) (by with_reducible rfl) (by omega) (by first | decide | assumption | omega) rfl ?_
          refine wp_goto rfl ?_
          refine wp_istore4 (pc' := 44) rfl (by first | rfl | assumption) rfl ?_
          refine wp_iconst (v := nI 1) (pc' := 45) rfl rfl rfl ?_
          refine wp_istore5 (pc' := 47) rfl (by first | rfl | assumption) rfl ?_
          have lp47 : ∀ rb (j : Nat), j + rb = 4 → spitI (nimC (I 2) x) (spitD (I 2) x i) i rb j = spitI (nimC (I 2) x) (spitD (I 2) x i) i 3 1 → WP (d + 1) F_45 47 [.ref 0, .int x, .int (nimC (I 2) x), .int (nI i), .int (spitD (I 2) x i), .int (nI j)] [] (K, I, L, R, n, s) Q := by
            intro rb; induction rb with
            | zero =>
              intro j hib hvb0
              have hi2b : j = 4 := by omega
              subst hi2b
              refine wp_iload5 (pc' := 49) rfl rfl ?_
              refine wp_iconst (v := nI 3) (pc' := 50) rfl rfl rfl ?_
              refine wp_icmpgtT rfl (nI_lt (by omega) (by omega)) ?_
              first | refine wp_iinc3 (w := nI 1) (pc' := 93) rfl rfl rfl (by with_reducible exact nI_add _ _) rfl ?_ | refine wp_iinc3 (w := nI 1) (pc' := 93) rfl rfl rfl rfl rfl ?_
              refine wp_goto rfl ?_
              exact WP.cg (ih (i + 1) _ _ (by omega) (hnx (by first | exact hvb0.symm | (rw [spitI, if_pos (by first | assumption)] at hvb0; exact hvb0.symm))) (by first | rfl | assumption) (by first | rfl | assumption)) (lC1 (lI1 (by first | with_reducible rfl | (simp only [forN, *, ↓reduceIte, not_true_eq_false, not_false_eq_true, and_self, and_true, true_and, and_false, false_and]; done) | rfl | (simp_all [forN]; done)) (lI1 (by first | with_reducible rfl | (simp only [forN, *, ↓reduceIte, not_true_eq_false, not_false_eq_true, and_self, and_true, true_and, and_false, false_and]; done) | rfl | (simp_all [forN]; done)) (lI1 (by first | with_reducible rfl | (simp only [forN, *, ↓reduceIte, not_true_eq_false, not_false_eq_true, and_self, and_true, true_and, and_false, false_and]; done) | rfl | (simp_all [forN]; done)) (lC1 (lC1 rfl)))))) rfl (by first | with_reducible rfl | (simp only [forN, *, ↓reduceIte, not_true_eq_false, not_false_eq_true, and_self, and_true, true_and, and_false, false_and]; done) | rfl | (simp_all [forN]; done))
            | succ rb ihb =>
              intro j hib hvb0
              have hltb : j < 4 := by omega
              refine wp_iload5 (pc' := 49) rfl rfl ?_
              refine wp_iconst (v := nI 3) (pc' := 50) rfl rfl rfl ?_
              refine wp_icmpgtF (pc' := 53) rfl (nI_nlt (by omega) (by omega)) rfl ?_
              refine wp_iload5 (pc' := 55) rfl rfl ?_
              refine wp_iload4 (pc' := 57) rfl rfl ?_
              refine wp_icmpgt (pc' := 60) rfl rfl ?_ ?_
              · intro h57
                first | refine wp_iinc3 (w := nI 1) (pc' := 93) rfl rfl rfl (by with_reducible exact nI_add _ _) rfl ?_ | refine wp_iinc3 (w := nI 1) (pc' := 93) rfl rfl rfl rfl rfl ?_
                refine wp_goto rfl ?_
                exact WP.cg (ih (i + 1) _ _ (by omega) (hnx (by first | exact hvb0.symm | (rw [spitI, if_pos (by first | assumption)] at hvb0; exact hvb0.symm))) (by first | rfl | assumption) (by first | rfl | assumption)) (lC1 (lI1 (by first | with_reducible rfl | (simp only [forN, *, ↓reduceIte, not_true_eq_false, not_false_eq_true, and_self, and_true, true_and, and_false, false_and]; done) | rfl | (simp_all [forN]; done)) (lI1 (by first | with_reducible rfl | (simp only [forN, *, ↓reduceIte, not_true_eq_false, not_false_eq_true, and_self, and_true, true_and, and_false, false_and]; done) | rfl | (simp_all [forN]; done)) (lI1 (by first | with_reducible rfl | (simp only [forN, *, ↓reduceIte, not_true_eq_false, not_false_eq_true, and_self, and_true, true_and, and_false, false_and]; done) | rfl | (simp_all [forN]; done)) (lC1 (lC1 rfl)))))) rfl (by first | with_reducible rfl | (simp only [forN, *, ↓reduceIte, not_true_eq_false, not_false_eq_true, and_self, and_true, true_and, and_false, false_and]; done) | rfl | (simp_all [forN]; done))
              · intro h57
                refine wp_iload2 (pc' := 61) rfl rfl ?_
                refine wp_iload4 (pc' := 63) rfl rfl ?_
                refine wp_iconst (v := nI 4) (pc' := 64) rfl rfl rfl ?_
                first | refine wp_iremN (pc' := 65) rfl (by with_reducible rfl) (by with_reducible rfl) (by omega) (by omega) (by omega) rfl ?_ | refine wp_irem (pc' := 65) rfl (by decide) rfl ?_
                refine wp_ixor (pc' := 66) rfl rfl ?_
                refine wp_iload4 (pc' := 68) rfl rfl ?_
                refine wp_iload5 (pc' := 70) rfl rfl ?_
                first | refine wp_isubN (pc' := 71) rfl (by with_reducible rfl) (by with_reducible rfl) (by omega) rfl ?_ | refine wp_isub (pc' := 71) rfl rfl ?_
                refine wp_iconst (v := nI 4) (pc' := 72) rfl rfl rfl ?_
                first | refine wp_iremN (pc' := 73) rfl (by with_reducible rfl) (by with_reducible rfl) (by omega) (by omega) (by omega) rfl ?_ | refine wp_irem (pc' := 73) rfl (by decide) rfl ?_
                refine wp_ixor (pc' := 74) rfl rfl ?_
                first | refine wp_ifneB (pc' := 77) rfl rfl ?_ ?_ | refine wp_ifne (pc' := 77) rfl rfl ?_ ?_
                · intro h74
                  first | refine wp_iinc5 (w := nI 1) (pc' := 87) rfl rfl rfl (by with_reducible exact nI_add _ _) rfl ?_ | refine wp_iinc5 (w := nI 1) (pc' := 87) rfl rfl rfl rfl rfl ?_
                  refine wp_goto rfl ?_
                  exact WP.cg (ihb (j + 1) (by omega) (by rw [spitI, if_neg (by first | assumption), if_neg (by first | assumption)] at hvb0; exact hvb0)) (lC1 (lI1 (by first | with_reducible rfl | (simp only [forN, *, ↓reduceIte, not_true_eq_false, not_false_eq_true, and_self, and_true, true_and, and_false, false_and]; done) | rfl | (simp_all [forN]; done)) (lI1 (by first | with_reducible rfl | (simp only [forN, *, ↓reduceIte, not_true_eq_false, not_false_eq_true, and_self, and_true, true_and, and_false, false_and]; done) | rfl | (simp_all [forN]; done)) (lI1 (by first | with_reducible rfl | (simp only [forN, *, ↓reduceIte, not_true_eq_false, not_false_eq_true, and_self, and_true, true_and, and_false, false_and]; done) | rfl | (simp_all [forN]; done)) (lI1 (by first | with_reducible rfl | (simp only [forN, *, ↓reduceIte, not_true_eq_false, not_false_eq_true, and_self, and_true, true_and, and_false, false_and]; done) | rfl | (simp_all [forN]; done)) (lI1 (by first | with_reducible rfl | (simp only [forN, *, ↓reduceIte, not_true_eq_false, not_false_eq_true, and_self, and_true, true_and, and_false, false_and]; done) | rfl | (simp_all [forN]; done)) rfl)))))) rfl (by first | with_reducible rfl | (simp only [forN, *, ↓reduceIte, not_true_eq_false, not_false_eq_true, and_self, and_true, true_and, and_false, false_and]; done) | rfl | (simp_all [forN]; done))
                · intro h74
                  refine wp_iconst (v := nI 4) (pc' := 78) rfl rfl rfl ?_
                  refine wp_iload3 (pc' := 79) rfl rfl ?_
                  first | refine wp_imulN (pc' := 80) rfl (by with_reducible rfl) (by with_reducible rfl) rfl ?_ | refine wp_imul (pc' := 80) rfl rfl ?_
                  refine wp_iload5 (pc' := 82) rfl rfl ?_
                  first | refine wp_iaddN (pc' := 83) rfl (by with_reducible rfl) (by with_reducible rfl) rfl ?_ | refine wp_iadd (pc' := 83) rfl rfl ?_
                  refine wp_iret rfl rfl rfl ?_
                  exact Qv kk (by unfold spitC; rw [if_neg h7]; exact hyx _ (by rw [spitI, if_neg (by first | assumption), if_pos (by first | assumption)] at hvb0; exact hvb0.symm)) rfl
          exact WP.cg (lp47 (4 - (1)) (1) (by omega) rfl) (lC1 (lI1 (by first | rfl | (simp only [spitD, hasP, *, ↓reduceIte]; done)) (lI1 (by first | rfl | (simp only [spitD, hasP, *, ↓reduceIte]; done)) (lI1 (by first | rfl | (simp only [spitD, hasP, *, ↓reduceIte]; done)) (lI1 (by first | rfl | (simp only [spitD, hasP, *, ↓reduceIte]; done)) (lI1 (by first | rfl | (simp only [spitD, hasP, *, ↓reduceIte]; done)) rfl)))))) rfl (by first | with_reducible rfl | (simp only [forN, *, ↓reduceIte, not_true_eq_false, not_false_eq_true, and_self, and_true, true_and, and_false, false_and]; done) | rfl | (simp_all [forN]; done))
    exact WP.cg (lp14 (25 - (0)) (0) _ _ (by omega) rfl (by first | rfl | assumption) (by first | rfl | assumption)) (lC1 (lI1 (by first | with_reducible rfl | (simp only [forN, *, ↓reduceIte, not_true_eq_false, not_false_eq_true, and_self, and_true, true_and, and_false, false_and]; done) | rfl | (simp_all [forN]; done)) (lI1 (by first | with_reducible rfl | (simp only [forN, *, ↓reduceIte, not_true_eq_false, not_false_eq_true, and_self, and_true, true_and, and_false, false_and]; done) | rfl | (simp_all [forN]; done)) (lI1 (by first | with_reducible rfl | (simp only [forN, *, ↓reduceIte, not_true_eq_false, not_false_eq_true, and_self, and_true, true_and, and_false, false_and]; done) | rfl | (simp_all [forN]; done)) (lC1 (lC1 rfl)))))) rfl (by first | with_reducible rfl | (simp only [forN, *, ↓reduceIte, not_true_eq_false, not_false_eq_true, and_self, and_true, true_and, and_false, false_and]; done) | rfl | (simp_all [forN]; done))
  · intro h7
    refine wp_iconst (v := (-1)) (pc' := 11) rfl rfl rfl ?_
    refine wp_iret rfl rfl rfl ?_
    exact Qv kk (by unfold spitC; rw [if_pos h7]) rfl
theorem c_hags {d : Nat} {K : Nat → Nat × Nat} {I : Nat → Nat → Int32} {L : Nat → Nat → Int64} {R : Nat → Nat → Option Nat} {n s : Nat} {Q : Lo → Lm → Prop}  (hT : TK K R n) (kk : Q (.inl (some (.int (piecesC (peatS (vw 1 I)))))) (K, I, L, R, n, s)) : Ok (d + 4) 46 [.ref 0] (K, I, L, R, n, s) Q := by
  have hb := TK.s1 hT
  obtain ⟨-, -, hn⟩ := id hT
  refine Ok.enter (F := F_46) (ls := [.ref 0]) rfl rfl ?_
  refine wp_aload0 (pc' := 1) rfl rfl ?_
  refine wp_getRF (pc' := 4) rfl rfl (by first | exact TK.k1 hT rfl | exact TK.kk hT rfl | exact TK.r hT rfl | assumption) (by first | exact TK.k1 hT rfl | exact TK.kk hT rfl | exact TK.r hT rfl | assumption) rfl ?_
  refine wp_callV1 (pc' := 7) rfl rfl rfl rfl rfl (by first | exact TK.k1 hT rfl | exact TK.kk hT rfl | exact TK.r hT rfl | assumption) rfl rfl ?_
  refine c_peat hb ?_
  refine Cont.v ?_
  refine wp_callS1 (pc' := 10) rfl rfl rfl rfl rfl rfl ?_
  refine c_pieces ?_
  refine Cont.v ?_
  refine wp_iret rfl rfl rfl ?_
  exact kk
theorem c_bridges {d : Nat} {K : Nat → Nat × Nat} {I : Nat → Nat → Int32} {L : Nat → Nat → Int64} {R : Nat → Nat → Option Nat} {n s : Nat} {Q : Lo → Lm → Prop}  (hT : TK K R n) (kk : Q (.inl (some (.int (bridC (peatS (vw 1 I)))))) (K, I, L, R, n, s)) : Ok (d + 4) 49 [.ref 0] (K, I, L, R, n, s) Q := by
  have hb := TK.s1 hT
  obtain ⟨-, -, hn⟩ := id hT
  refine Ok.enter (F := F_49) (ls := [.ref 0, lDead, lDead, lDead, lDead, lDead]) rfl rfl ?_
  refine wp_aload0 (pc' := 1) rfl rfl ?_
  refine wp_getRF (pc' := 4) rfl rfl (by first | exact TK.k1 hT rfl | exact TK.kk hT rfl | exact TK.r hT rfl | assumption) (by first | exact TK.k1 hT rfl | exact TK.kk hT rfl | exact TK.r hT rfl | assumption) rfl ?_
  refine wp_callV1 (pc' := 7) rfl rfl rfl rfl rfl (by first | exact TK.k1 hT rfl | exact TK.kk hT rfl | exact TK.r hT rfl | assumption) rfl rfl ?_
  refine c_peat hb ?_
  refine Cont.v ?_
  refine wp_istore1 (pc' := 8) rfl (by first | rfl | assumption) rfl ?_
  refine wp_iload1 (pc' := 9) rfl rfl ?_
  refine wp_callS1 (pc' := 12) rfl rfl rfl rfl rfl rfl ?_
  refine c_pieces ?_
  refine Cont.v ?_
  refine wp_istore2 (pc' := 13) rfl (by first | rfl | assumption) rfl ?_
  refine wp_iconst (v := nI 0) (pc' := 14) rfl rfl rfl ?_
  refine wp_istore3 (pc' := 15) rfl (by first | rfl | assumption) rfl ?_
  refine wp_iconst (v := nI 0) (pc' := 16) rfl rfl rfl ?_
  refine wp_istore4 (pc' := 18) rfl (by first | rfl | assumption) rfl ?_
  have lp18 : ∀ r (i : Nat) (v5 : Value), i + r = 25 → isL v5 = false → WP (d + 3) F_49 18 [.ref 0, .int (peatS (vw 1 I)), .int (piecesC (peatS (vw 1 I))), .int (forN (fun c f => if ¬ peatS (vw 1 I) &&& jshl (nI 1) (nI c) = nI 0 then (if piecesC (peatS (vw 1 I)) < piecesC (peatS (vw 1 I) &&& (jshl (nI 1) (nI c) ^^^ (-1))) then f ||| jshl (nI 1) (nI c) else f) else f) (nI 0) i), .int (nI i), v5] [] (K, I, L, R, n, s) Q := by
    intro r; induction r with
    | zero =>
      intro i v5 hi hv0
      have hi2 : i = 25 := by omega
      subst hi2
      refine wp_iload4 (pc' := 20) rfl rfl ?_
      refine wp_bipush (v := nI 25) (pc' := 22) rfl rfl rfl ?_
      refine wp_icmpgeT rfl (nI_nlt (by omega) (by omega)) ?_
      refine wp_iload3 (pc' := 63) rfl rfl ?_
      refine wp_iret rfl rfl rfl ?_
      exact kk
    | succ r ih =>
      intro i v5 hi hv0
      have hlt : i < 25 := by omega
      refine wp_iload4 (pc' := 20) rfl rfl ?_
      refine wp_bipush (v := nI 25) (pc' := 22) rfl rfl rfl ?_
      refine wp_icmpgeF (pc' := 25) rfl (nI_lt (by omega) (by omega)) rfl ?_
      refine wp_iconst (v := nI 1) (pc' := 26) rfl rfl rfl ?_
      refine wp_iload4 (pc' := 28) rfl rfl ?_
      refine wp_ishl (pc' := 29) rfl rfl ?_
      refine wp_istore5 (pc' := 31) rfl (by first | rfl | assumption) rfl ?_
      refine wp_iload1 (pc' := 32) rfl rfl ?_
      refine wp_iload5 (pc' := 34) rfl rfl ?_
      refine wp_iand (pc' := 35) rfl rfl ?_
      first | refine wp_ifeqB (pc' := 38) rfl rfl ?_ ?_ | refine wp_ifeq (pc' := 38) rfl rfl ?_ ?_
      · intro h35
        first | refine wp_iinc4 (w := nI 1) (pc' := 59) rfl rfl rfl (by with_reducible exact nI_add _ _) rfl ?_ | refine wp_iinc4 (w := nI 1) (pc' := 59) rfl rfl rfl rfl rfl ?_
        refine wp_goto rfl ?_
        exact WP.cg (ih (i + 1) _ (by omega) (by first | rfl | assumption)) (lC1 (lI1 (by first | with_reducible rfl | (simp only [forN, *, ↓reduceIte, not_true_eq_false, not_false_eq_true, and_self, and_true, true_and, and_false, false_and]; done) | rfl | (simp_all [forN]; done)) (lI1 (by first | with_reducible rfl | (simp only [forN, *, ↓reduceIte, not_true_eq_false, not_false_eq_true, and_self, and_true, true_and, and_false, false_and]; done) | rfl | (simp_all [forN]; done)) (lI1 (by first | with_reducible rfl | (simp only [forN, *, ↓reduceIte, not_true_eq_false, not_false_eq_true, and_self, and_true, true_and, and_false, false_and]; done) | rfl | (simp_all [forN]; done)) (lI1 (by first | with_reducible rfl | (simp only [forN, *, ↓reduceIte, not_true_eq_false, not_false_eq_true, and_self, and_true, true_and, and_false, false_and]; done) | rfl | (simp_all [forN]; done)) (lC1 rfl)))))) rfl (by first | with_reducible rfl | (simp only [forN, *, ↓reduceIte, not_true_eq_false, not_false_eq_true, and_self, and_true, true_and, and_false, false_and]; done) | rfl | (simp_all [forN]; done))
      · intro h35
        refine wp_iload1 (pc' := 39) rfl rfl ?_
        refine wp_iload5 (pc' := 41) rfl rfl ?_
        refine wp_iconst (v := (-1)) (pc' := 42) rfl rfl rfl ?_
        refine wp_ixor (pc' := 43) rfl rfl ?_
        refine wp_iand (pc' := 44) rfl rfl ?_
        refine wp_callS1 (pc' := 47) rfl rfl rfl rfl rfl rfl ?_
        refine c_pieces ?_
        refine Cont.v ?_
        refine wp_iload2 (pc' := 48) rfl rfl ?_
        refine wp_icmple (pc' := 51) rfl rfl ?_ ?_
        · intro h48
          first | refine wp_iinc4 (w := nI 1) (pc' := 59) rfl rfl rfl (by with_reducible exact nI_add _ _) rfl ?_ | refine wp_iinc4 (w := nI 1) (pc' := 59) rfl rfl rfl rfl rfl ?_
          refine wp_goto rfl ?_
          exact WP.cg (ih (i + 1) _ (by omega) (by first | rfl | assumption)) (lC1 (lI1 (by first | with_reducible rfl | (simp only [forN, *, ↓reduceIte, not_true_eq_false, not_false_eq_true, and_self, and_true, true_and, and_false, false_and]; done) | rfl | (simp_all [forN]; done)) (lI1 (by first | with_reducible rfl | (simp only [forN, *, ↓reduceIte, not_true_eq_false, not_false_eq_true, and_self, and_true, true_and, and_false, false_and]; done) | rfl | (simp_all [forN]; done)) (lI1 (by first | with_reducible rfl | (simp only [forN, *, ↓reduceIte, not_true_eq_false, not_false_eq_true, and_self, and_true, true_and, and_false, false_and]; done) | rfl | (simp_all [forN]; done)) (lI1 (by first | with_reducible rfl | (simp only [forN, *, ↓reduceIte, not_true_eq_false, not_false_eq_true, and_self, and_true, true_and, and_false, false_and]; done) | rfl | (simp_all [forN]; done)) (lC1 rfl)))))) rfl (by first | with_reducible rfl | (simp only [forN, *, ↓reduceIte, not_true_eq_false, not_false_eq_true, and_self, and_true, true_and, and_false, false_and]; done) | rfl | (simp_all [forN]; done))
        · intro h48
          refine wp_iload3 (pc' := 52) rfl rfl ?_
          refine wp_iload5 (pc' := 54) rfl rfl ?_
          refine wp_ior (pc' := 55) rfl rfl ?_
          refine wp_istore3 (pc' := 56) rfl (by first | rfl | assumption) rfl ?_
          first | refine wp_iinc4 (w := nI 1) (pc' := 59) rfl rfl rfl (by with_reducible exact nI_add _ _) rfl ?_ | refine wp_iinc4 (w := nI 1) (pc' := 59) rfl rfl rfl rfl rfl ?_
          refine wp_goto rfl ?_
          exact WP.cg (ih (i + 1) _ (by omega) (by first | rfl | assumption)) (lC1 (lI1 (by first | with_reducible rfl | (simp only [forN, *, ↓reduceIte, not_true_eq_false, not_false_eq_true, and_self, and_true, true_and, and_false, false_and]; done) | rfl | (simp_all [forN]; done)) (lI1 (by first | with_reducible rfl | (simp only [forN, *, ↓reduceIte, not_true_eq_false, not_false_eq_true, and_self, and_true, true_and, and_false, false_and]; done) | rfl | (simp_all [forN]; done)) (lI1 (by first | with_reducible rfl | (simp only [forN, *, ↓reduceIte, not_true_eq_false, not_false_eq_true, and_self, and_true, true_and, and_false, false_and]; done) | rfl | (simp_all [forN]; done)) (lI1 (by first | with_reducible rfl | (simp only [forN, *, ↓reduceIte, not_true_eq_false, not_false_eq_true, and_self, and_true, true_and, and_false, false_and]; done) | rfl | (simp_all [forN]; done)) (lC1 rfl)))))) rfl (by first | with_reducible rfl | (simp only [forN, *, ↓reduceIte, not_true_eq_false, not_false_eq_true, and_self, and_true, true_and, and_false, false_and]; done) | rfl | (simp_all [forN]; done))
  exact WP.cg (lp18 (25 - (0)) (0) _ (by omega) (by first | rfl | assumption)) (lC1 (lI1 (by first | with_reducible rfl | (simp only [forN, *, ↓reduceIte, not_true_eq_false, not_false_eq_true, and_self, and_true, true_and, and_false, false_and]; done) | rfl | (simp_all [forN]; done)) (lI1 (by first | with_reducible rfl | (simp only [forN, *, ↓reduceIte, not_true_eq_false, not_false_eq_true, and_self, and_true, true_and, and_false, false_and]; done) | rfl | (simp_all [forN]; done)) (lI1 (by first | with_reducible rfl | (simp only [forN, *, ↓reduceIte, not_true_eq_false, not_false_eq_true, and_self, and_true, true_and, and_false, false_and]; done) | rfl | (simp_all [forN]; done)) (lI1 (by first | with_reducible rfl | (simp only [forN, *, ↓reduceIte, not_true_eq_false, not_false_eq_true, and_self, and_true, true_and, and_false, false_and]; done) | rfl | (simp_all [forN]; done)) (lC1 rfl)))))) rfl (by first | with_reducible rfl | (simp only [forN, *, ↓reduceIte, not_true_eq_false, not_false_eq_true, and_self, and_true, true_and, and_false, false_and]; done) | rfl | (simp_all [forN]; done))
theorem c_hag {d : Nat} {K : Nat → Nat × Nat} {I : Nat → Nat → Int32} {L : Nat → Nat → Int64} {R : Nat → Nat → Option Nat} {n s : Nat} {Q : Lo → Lm → Prop} {x : Int32} (hT : TK K R n) (hf : n + 1 ≤ lmCells) (hs : s + 6 ≤ lmSlots) (kkE : ¬ InR x 25 → Q (.inr n) (exM 16 (K, I, L, R, n, s))) (kk : ∀ c, c < 25 → x = nI c → Q (.inl (some (.int (spreadC (peatS (vw 1 I) &&& jshl (nI 1) (nI c)) (peatS (vw 1 I)))))) (K, I, L, R, n, s)) : Ok (d + 3) 183 [.ref 0, .int x] (K, I, L, R, n, s) Q := by
  have hb := TK.s1 hT
  obtain ⟨-, -, hn⟩ := id hT
  refine Ok.enter (F := F_183) (ls := [.ref 0, .int x, lDead]) rfl rfl ?_
  refine wp_iload1 (pc' := 1) rfl rfl ?_
  refine wp_callS1 (pc' := 4) rfl rfl rfl rfl rfl rfl ?_
  refine c_needCell hf hs (fun he => Cont.e rfl (kkE he)) (fun c hc hx => ?_)
  subst hx
  refine Cont.u ?_
  refine wp_aload0 (pc' := 5) rfl rfl ?_
  refine wp_getRF (pc' := 8) rfl rfl (by first | exact TK.k1 hT rfl | exact TK.kk hT rfl | exact TK.r hT rfl | assumption) (by first | exact TK.k1 hT rfl | exact TK.kk hT rfl | exact TK.r hT rfl | assumption) rfl ?_
  refine wp_callV1 (pc' := 11) rfl rfl rfl rfl rfl (by first | exact TK.k1 hT rfl | exact TK.kk hT rfl | exact TK.r hT rfl | assumption) rfl rfl ?_
  refine c_peat hb ?_
  refine Cont.v ?_
  refine wp_istore2 (pc' := 12) rfl (by first | rfl | assumption) rfl ?_
  refine wp_iload2 (pc' := 13) rfl rfl ?_
  refine wp_iconst (v := nI 1) (pc' := 14) rfl rfl rfl ?_
  refine wp_iload1 (pc' := 15) rfl rfl ?_
  refine wp_ishl (pc' := 16) rfl rfl ?_
  refine wp_iand (pc' := 17) rfl rfl ?_
  refine wp_iload2 (pc' := 18) rfl rfl ?_
  refine wp_callS2 (pc' := 21) rfl rfl rfl rfl rfl rfl ?_
  refine c_spread ?_
  refine Cont.v ?_
  refine wp_iret rfl rfl rfl ?_
  exact kk c hc rfl
theorem c_far {d : Nat} {K : Nat → Nat × Nat} {I : Nat → Nat → Int32} {L : Nat → Nat → Int64} {R : Nat → Nat → Option Nat} {n s : Nat} {Q : Lo → Lm → Prop} {x z : Int32} (hT : TK K R n) (hf : n + 1 ≤ lmCells) (hs : s + 6 ≤ lmSlots) (kkE : ¬ (InR x 25 ∧ InR z 25) → Q (.inr n) (exM 16 (K, I, L, R, n, s))) (kk : ∀ c e, c < 25 → e < 25 → x = nI c → z = nI e → Q (.inl (some (.int (farF (peatS (vw 1 I)) e 25 0 (peatS (vw 1 I) &&& jshl (nI 1) (nI c)))))) (K, I, L, R, n, s)) : Ok (d + 2) 185 [.ref 0, .int x, .int z] (K, I, L, R, n, s) Q := by
  have hb := TK.s1 hT
  obtain ⟨-, -, hn⟩ := id hT
  refine Ok.enter (F := F_185) (ls := [.ref 0, .int x, .int z, lDead, lDead, lDead]) rfl rfl ?_
  refine wp_iload1 (pc' := 1) rfl rfl ?_
  refine wp_callS1 (pc' := 4) rfl rfl rfl rfl rfl rfl ?_
  refine c_needCell hf hs (fun he => Cont.e rfl (kkE (fun h => he h.1))) (fun c hc hx => ?_)
  subst hx
  refine Cont.u ?_
  refine wp_iload2 (pc' := 5) rfl rfl ?_
  refine wp_callS1 (pc' := 8) rfl rfl rfl rfl rfl rfl ?_
  refine c_needCell hf hs (fun he => Cont.e rfl (kkE (fun h => he h.2))) (fun e he hx => ?_)
  subst hx
  refine Cont.u ?_
  refine wp_aload0 (pc' := 9) rfl rfl ?_
  refine wp_getRF (pc' := 12) rfl rfl (by first | exact TK.k1 hT rfl | exact TK.kk hT rfl | exact TK.r hT rfl | assumption) (by first | exact TK.k1 hT rfl | exact TK.kk hT rfl | exact TK.r hT rfl | assumption) rfl ?_
  refine wp_callV1 (pc' := 15) rfl rfl rfl rfl rfl (by first | exact TK.k1 hT rfl | exact TK.kk hT rfl | exact TK.r hT rfl | assumption) rfl rfl ?_
  refine c_peat hb ?_
  refine Cont.v ?_
  refine wp_istore3 (pc' := 16) rfl (by first | rfl | assumption) rfl ?_
  refine wp_iload3 (pc' := 17) rfl rfl ?_
  refine wp_iconst (v := nI 1) (pc' := 18) rfl rfl rfl ?_
  refine wp_iload1 (pc' := 19) rfl rfl ?_
  refine wp_ishl (pc' := 20) rfl rfl ?_
  refine wp_iand (pc' := 21) rfl rfl ?_
  refine wp_istore4 (pc' := 23) rfl (by first | rfl | assumption) rfl ?_
  refine wp_iconst (v := nI 0) (pc' := 24) rfl rfl rfl ?_
  refine wp_istore5 (pc' := 26) rfl (by first | rfl | assumption) rfl ?_
  have lp26 : ∀ r (i : Nat) (y : Int32), i + r = 25 → farF (peatS (vw 1 I)) e r i y = farF (peatS (vw 1 I)) e 25 0 (peatS (vw 1 I) &&& jshl (nI 1) (nI c)) → WP (d + 1) F_185 26 [.ref 0, .int (nI c), .int (nI e), .int (peatS (vw 1 I)), .int y, .int (nI i)] [] (K, I, L, R, n, s) Q := by
    intro r; induction r with
    | zero =>
      intro i y hi hv0
      have hi2 : i = 25 := by omega
      subst hi2
      refine wp_iload5 (pc' := 28) rfl rfl ?_
      refine wp_bipush (v := nI 25) (pc' := 30) rfl rfl rfl ?_
      refine wp_icmpgeT rfl (nI_nlt (by omega) (by omega)) ?_
      refine wp_iconst (v := (-1)) (pc' := 65) rfl rfl rfl ?_
      refine wp_iret rfl rfl rfl ?_
      exact Qv (kk c e hc he rfl rfl) hv0 rfl
    | succ r ih =>
      intro i y hi hv0
      have hlt : i < 25 := by omega
      refine wp_iload5 (pc' := 28) rfl rfl ?_
      refine wp_bipush (v := nI 25) (pc' := 30) rfl rfl rfl ?_
      refine wp_icmpgeF (pc' := 33) rfl (nI_lt (by omega) (by omega)) rfl ?_
      refine wp_iload4 (pc' := 35) rfl rfl ?_
      refine wp_iload2 (pc' := 36) rfl rfl ?_
      refine wp_ishr (pc' := 37) rfl rfl ?_
      refine wp_iconst (v := nI 1) (pc' := 38) rfl rfl rfl ?_
      refine wp_iand (pc' := 39) rfl rfl ?_
      refine wp_iconst (v := nI 1) (pc' := 40) rfl rfl rfl ?_
      refine wp_icmpne (pc' := 43) rfl rfl ?_ ?_
      · intro h40
        refine wp_iload4 (pc' := 48) rfl rfl ?_
        refine wp_iload4 (pc' := 50) rfl rfl ?_
        refine wp_callS1 (pc' := 53) rfl rfl rfl rfl rfl rfl ?_
        refine c_beside ?_
        refine Cont.v ?_
        refine wp_iload3 (pc' := 54) rfl rfl ?_
        refine wp_iand (pc' := 55) rfl rfl ?_
        refine wp_ior (pc' := 56) rfl rfl ?_
        refine wp_istore4 (pc' := 58) rfl (by first | rfl | assumption) rfl ?_
        first | refine wp_iinc5 (w := nI 1) (pc' := 61) rfl rfl rfl (by with_reducible exact nI_add _ _) rfl ?_ | refine wp_iinc5 (w := nI 1) (pc' := 61) rfl rfl rfl rfl rfl ?_
        refine wp_goto rfl ?_
        exact WP.cg (ih (i + 1) (moreC (peatS (vw 1 I)) y) (by omega) (by rw [farF, if_neg (by first | assumption)] at hv0; exact hv0)) (lC1 (lI1 (by first | with_reducible rfl | (simp only [forN, *, ↓reduceIte, not_true_eq_false, not_false_eq_true, and_self, and_true, true_and, and_false, false_and]; done) | rfl | (simp_all [forN]; done)) (lI1 (by first | with_reducible rfl | (simp only [forN, *, ↓reduceIte, not_true_eq_false, not_false_eq_true, and_self, and_true, true_and, and_false, false_and]; done) | rfl | (simp_all [forN]; done)) (lI1 (by first | with_reducible rfl | (simp only [forN, *, ↓reduceIte, not_true_eq_false, not_false_eq_true, and_self, and_true, true_and, and_false, false_and]; done) | rfl | (simp_all [forN]; done)) (lI1 (by first | with_reducible rfl | (simp only [forN, *, ↓reduceIte, not_true_eq_false, not_false_eq_true, and_self, and_true, true_and, and_false, false_and]; done) | rfl | (simp_all [forN]; done)) (lI1 (by first | with_reducible rfl | (simp only [forN, *, ↓reduceIte, not_true_eq_false, not_false_eq_true, and_self, and_true, true_and, and_false, false_and]; done) | rfl | (simp_all [forN]; done)) rfl)))))) rfl (by first | with_reducible rfl | (simp only [forN, *, ↓reduceIte, not_true_eq_false, not_false_eq_true, and_self, and_true, true_and, and_false, false_and]; done) | rfl | (simp_all [forN]; done))
      · intro h40
        refine wp_iload5 (pc' := 45) rfl rfl ?_
        refine wp_iret rfl rfl rfl ?_
        exact Qv (kk c e hc he rfl rfl) (by rw [farF, if_pos (by first | assumption)] at hv0; exact hv0) rfl
  exact WP.cg (lp26 (25 - (0)) (0) _ (by omega) rfl) (lC1 (lI1 (by first | with_reducible rfl | (simp only [forN, *, ↓reduceIte, not_true_eq_false, not_false_eq_true, and_self, and_true, true_and, and_false, false_and]; done) | rfl | (simp_all [forN]; done)) (lI1 (by first | with_reducible rfl | (simp only [forN, *, ↓reduceIte, not_true_eq_false, not_false_eq_true, and_self, and_true, true_and, and_false, false_and]; done) | rfl | (simp_all [forN]; done)) (lI1 (by first | with_reducible rfl | (simp only [forN, *, ↓reduceIte, not_true_eq_false, not_false_eq_true, and_self, and_true, true_and, and_false, false_and]; done) | rfl | (simp_all [forN]; done)) (lI1 (by first | with_reducible rfl | (simp only [forN, *, ↓reduceIte, not_true_eq_false, not_false_eq_true, and_self, and_true, true_and, and_false, false_and]; done) | rfl | (simp_all [forN]; done)) (lI1 (by first | with_reducible rfl | (simp only [forN, *, ↓reduceIte, not_true_eq_false, not_false_eq_true, and_self, and_true, true_and, and_false, false_and]; done) | rfl | (simp_all [forN]; done)) rfl)))))) rfl (by first | with_reducible rfl | (simp only [forN, *, ↓reduceIte, not_true_eq_false, not_false_eq_true, and_self, and_true, true_and, and_false, false_and]; done) | rfl | (simp_all [forN]; done))
theorem c_cold {d : Nat} {K : Nat → Nat × Nat} {I : Nat → Nat → Int32} {L : Nat → Nat → Int64} {R : Nat → Nat → Option Nat} {n s : Nat} {Q : Lo → Lm → Prop}  (hT : TK K R n) {H : Nat} (hH : I 1 10 = nI H) (hH6 : H ≤ 6) (kk : Q (.inl (some (.int (coldS (vw 1 I) H)))) (K, I, L, R, n, s)) : Ok (d + 2) 53 [.ref 0] (K, I, L, R, n, s) Q := by
  have hb := TK.s1 hT
  obtain ⟨-, -, hn⟩ := id hT
  refine Ok.enter (F := F_53) (ls := [.ref 0, lDead, lDead]) rfl rfl ?_
  refine wp_iconst (v := nI 0) (pc' := 1) rfl rfl rfl ?_
  refine wp_istore1 (pc' := 2) rfl (by first | rfl | assumption) rfl ?_
  refine wp_iconst (v := nI 0) (pc' := 3) rfl rfl rfl ?_
  refine wp_istore2 (pc' := 4) rfl (by first | rfl | assumption) rfl ?_
  have lp4 : ∀ r (i : Nat), i + r = H → WP (d + 1) F_53 4 [.ref 0, .int (coldS (vw 1 I) i), .int (nI i)] [] (K, I, L, R, n, s) Q := by
    intro r; induction r with
    | zero =>
      intro i hi 
      have hi2 : i = H := by omega
      subst hi2
      refine wp_iload2 (pc' := 5) rfl rfl ?_
      refine wp_aload0 (pc' := 6) rfl rfl ?_
      refine wp_getRF (pc' := 9) rfl rfl (by first | exact TK.k1 hT rfl | exact TK.kk hT rfl | exact TK.r hT rfl | assumption) (by first | exact TK.k1 hT rfl | exact TK.kk hT rfl | exact TK.r hT rfl | assumption) rfl ?_
      refine wp_getI (pc' := 12) rfl rfl (by first | exact TK.k1 hT rfl | exact TK.kk hT rfl | exact TK.r hT rfl | assumption) rfl ?_
      refine wp_icmpgeT rfl (by rw [hH]; exact nI_nlt (by omega) (by omega)) ?_
      refine wp_iload1 (pc' := 39) rfl rfl ?_
      refine wp_iret rfl rfl rfl ?_
      exact kk
    | succ r ih =>
      intro i hi 
      have hlt : i < H := by omega
      refine wp_iload2 (pc' := 5) rfl rfl ?_
      refine wp_aload0 (pc' := 6) rfl rfl ?_
      refine wp_getRF (pc' := 9) rfl rfl (by first | exact TK.k1 hT rfl | exact TK.kk hT rfl | exact TK.r hT rfl | assumption) (by first | exact TK.k1 hT rfl | exact TK.kk hT rfl | exact TK.r hT rfl | assumption) rfl ?_
      refine wp_getI (pc' := 12) rfl rfl (by first | exact TK.k1 hT rfl | exact TK.kk hT rfl | exact TK.r hT rfl | assumption) rfl ?_
      refine wp_icmpgeF (pc' := 15) rfl (by rw [hH]; exact nI_lt (by omega) (by omega)) rfl ?_
      refine wp_aload0 (pc' := 16) rfl rfl ?_
      refine wp_getRF (pc' := 19) rfl rfl (by first | exact TK.k1 hT rfl | exact TK.kk hT rfl | exact TK.r hT rfl | assumption) (by first | exact TK.k1 hT rfl | exact TK.kk hT rfl | exact TK.r hT rfl | assumption) rfl ?_
      refine wp_iload2 (pc' := 20) rfl rfl ?_
      refine wp_callV2 (pc' := 23) rfl rfl rfl rfl rfl (by first | exact TK.k1 hT rfl | exact TK.kk hT rfl | exact TK.r hT rfl | assumption) rfl rfl ?_
      refine c_lacks hb (by omega) ?_
      refine Cont.v ?_
      refine wp_ifle (pc' := 26) rfl rfl ?_ ?_
      · intro h23
        first | refine wp_iinc2 (w := nI 1) (pc' := 35) rfl rfl rfl (by with_reducible exact nI_add _ _) rfl ?_ | refine wp_iinc2 (w := nI 1) (pc' := 35) rfl rfl rfl rfl rfl ?_
        refine wp_goto rfl ?_
        exact WP.cg (ih (i + 1) (by omega)) (lC1 (lI1 (by first | rfl | (simp only [coldS, forN, *, ↓reduceIte]; done)) (lI1 (by first | rfl | (simp only [coldS, forN, *, ↓reduceIte]; done)) rfl))) rfl (by first | with_reducible rfl | (simp only [forN, *, ↓reduceIte, not_true_eq_false, not_false_eq_true, and_self, and_true, true_and, and_false, false_and]; done) | rfl | (simp_all [forN]; done))
      · intro h23
        refine wp_iload1 (pc' := 27) rfl rfl ?_
        refine wp_iconst (v := nI 1) (pc' := 28) rfl rfl rfl ?_
        refine wp_iload2 (pc' := 29) rfl rfl ?_
        refine wp_ishl (pc' := 30) rfl rfl ?_
        refine wp_ior (pc' := 31) rfl rfl ?_
        refine wp_istore1 (pc' := 32) rfl (by first | rfl | assumption) rfl ?_
        first | refine wp_iinc2 (w := nI 1) (pc' := 35) rfl rfl rfl (by with_reducible exact nI_add _ _) rfl ?_ | refine wp_iinc2 (w := nI 1) (pc' := 35) rfl rfl rfl rfl rfl ?_
        refine wp_goto rfl ?_
        exact WP.cg (ih (i + 1) (by omega)) (lC1 (lI1 (by first | rfl | (simp only [coldS, forN, *, ↓reduceIte]; done)) (lI1 (by first | rfl | (simp only [coldS, forN, *, ↓reduceIte]; done)) rfl))) rfl (by first | with_reducible rfl | (simp only [forN, *, ↓reduceIte, not_true_eq_false, not_false_eq_true, and_self, and_true, true_and, and_false, false_and]; done) | rfl | (simp_all [forN]; done))
  exact WP.cg (lp4 (H - (0)) (0) (by omega)) (lC1 (lI1 (by first | with_reducible rfl | (simp only [forN, *, ↓reduceIte, not_true_eq_false, not_false_eq_true, and_self, and_true, true_and, and_false, false_and]; done) | rfl | (simp_all [forN]; done)) (lI1 (by first | with_reducible rfl | (simp only [forN, *, ↓reduceIte, not_true_eq_false, not_false_eq_true, and_self, and_true, true_and, and_false, false_and]; done) | rfl | (simp_all [forN]; done)) rfl))) rfl (by first | with_reducible rfl | (simp only [forN, *, ↓reduceIte, not_true_eq_false, not_false_eq_true, and_self, and_true, true_and, and_false, false_and]; done) | rfl | (simp_all [forN]; done))
theorem c_waste {d : Nat} {K : Nat → Nat × Nat} {I : Nat → Nat → Int32} {L : Nat → Nat → Int64} {R : Nat → Nat → Option Nat} {n s : Nat} {Q : Lo → Lm → Prop}  (hT : TK K R n) {H : Nat} (hH : I 1 10 = nI H) (hH6 : H ≤ 6) (kk : Q (.inl (some (.int (peatS (vw 1 I) &&& (orN (vw 1 I 9) H ^^^ (-1)))))) (K, I, L, R, n, s)) : Ok (d + 2) 56 [.ref 0] (K, I, L, R, n, s) Q := by
  have hb := TK.s1 hT
  obtain ⟨-, -, hn⟩ := id hT
  refine Ok.enter (F := F_56) (ls := [.ref 0, lDead, lDead]) rfl rfl ?_
  refine wp_iconst (v := nI 0) (pc' := 1) rfl rfl rfl ?_
  refine wp_istore1 (pc' := 2) rfl (by first | rfl | assumption) rfl ?_
  refine wp_iconst (v := nI 0) (pc' := 3) rfl rfl rfl ?_
  refine wp_istore2 (pc' := 4) rfl (by first | rfl | assumption) rfl ?_
  have lp4 : ∀ r (i : Nat), i + r = H → WP (d + 1) F_56 4 [.ref 0, .int (orN (vw 1 I 9) i), .int (nI i)] [] (K, I, L, R, n, s) Q := by
    intro r; induction r with
    | zero =>
      intro i hi 
      have hi2 : i = H := by omega
      subst hi2
      refine wp_iload2 (pc' := 5) rfl rfl ?_
      refine wp_aload0 (pc' := 6) rfl rfl ?_
      refine wp_getRF (pc' := 9) rfl rfl (by first | exact TK.k1 hT rfl | exact TK.kk hT rfl | exact TK.r hT rfl | assumption) (by first | exact TK.k1 hT rfl | exact TK.kk hT rfl | exact TK.r hT rfl | assumption) rfl ?_
      refine wp_getI (pc' := 12) rfl rfl (by first | exact TK.k1 hT rfl | exact TK.kk hT rfl | exact TK.r hT rfl | assumption) rfl ?_
      refine wp_icmpgeT rfl (by rw [hH]; exact nI_nlt (by omega) (by omega)) ?_
      refine wp_aload0 (pc' := 34) rfl rfl ?_
      refine wp_getRF (pc' := 37) rfl rfl (by first | exact TK.k1 hT rfl | exact TK.kk hT rfl | exact TK.r hT rfl | assumption) (by first | exact TK.k1 hT rfl | exact TK.kk hT rfl | exact TK.r hT rfl | assumption) rfl ?_
      refine wp_callV1 (pc' := 40) rfl rfl rfl rfl rfl (by first | exact TK.k1 hT rfl | exact TK.kk hT rfl | exact TK.r hT rfl | assumption) rfl rfl ?_
      refine c_peat hb ?_
      refine Cont.v ?_
      refine wp_iload1 (pc' := 41) rfl rfl ?_
      refine wp_iconst (v := (-1)) (pc' := 42) rfl rfl rfl ?_
      refine wp_ixor (pc' := 43) rfl rfl ?_
      refine wp_iand (pc' := 44) rfl rfl ?_
      refine wp_iret rfl rfl rfl ?_
      exact kk
    | succ r ih =>
      intro i hi 
      have hlt : i < H := by omega
      refine wp_iload2 (pc' := 5) rfl rfl ?_
      refine wp_aload0 (pc' := 6) rfl rfl ?_
      refine wp_getRF (pc' := 9) rfl rfl (by first | exact TK.k1 hT rfl | exact TK.kk hT rfl | exact TK.r hT rfl | assumption) (by first | exact TK.k1 hT rfl | exact TK.kk hT rfl | exact TK.r hT rfl | assumption) rfl ?_
      refine wp_getI (pc' := 12) rfl rfl (by first | exact TK.k1 hT rfl | exact TK.kk hT rfl | exact TK.r hT rfl | assumption) rfl ?_
      refine wp_icmpgeF (pc' := 15) rfl (by rw [hH]; exact nI_lt (by omega) (by omega)) rfl ?_
      refine wp_iload1 (pc' := 16) rfl rfl ?_
      refine wp_aload0 (pc' := 17) rfl rfl ?_
      refine wp_getRF (pc' := 20) rfl rfl (by first | exact TK.k1 hT rfl | exact TK.kk hT rfl | exact TK.r hT rfl | assumption) (by first | exact TK.k1 hT rfl | exact TK.kk hT rfl | exact TK.r hT rfl | assumption) rfl ?_
      refine wp_getRF (pc' := 23) rfl rfl (by first | exact TK.k1 hT rfl | exact TK.kk hT rfl | exact TK.r hT rfl | assumption) (by first | exact TK.k1 hT rfl | exact TK.kk hT rfl | exact TK.r hT rfl | assumption) rfl ?_
      refine wp_iload2 (pc' := 24) rfl rfl ?_
      refine wp_iald _ (pc' := 25) rfl (by first | exact TK.k1 hT rfl | exact TK.kk hT rfl | exact TK.r hT rfl | assumption) (by with_reducible rfl) (by omega) (by first | decide | assumption | omega) rfl ?_
      refine wp_ior (pc' := 26) rfl rfl ?_
      refine wp_istore1 (pc' := 27) rfl (by first | rfl | assumption) rfl ?_
      first | refine wp_iinc2 (w := nI 1) (pc' := 30) rfl rfl rfl (by with_reducible exact nI_add _ _) rfl ?_ | refine wp_iinc2 (w := nI 1) (pc' := 30) rfl rfl rfl rfl rfl ?_
      refine wp_goto rfl ?_
      exact WP.cg (ih (i + 1) (by omega)) (lC1 (lI1 (by first | rfl | (simp only [orN, forN, *, ↓reduceIte]; done)) (lI1 (by first | rfl | (simp only [orN, forN, *, ↓reduceIte]; done)) rfl))) rfl (by first | with_reducible rfl | (simp only [forN, *, ↓reduceIte, not_true_eq_false, not_false_eq_true, and_self, and_true, true_and, and_false, false_and]; done) | rfl | (simp_all [forN]; done))
  exact WP.cg (lp4 (H - (0)) (0) (by omega)) (lC1 (lI1 (by first | with_reducible rfl | (simp only [forN, *, ↓reduceIte, not_true_eq_false, not_false_eq_true, and_self, and_true, true_and, and_false, false_and]; done) | rfl | (simp_all [forN]; done)) (lI1 (by first | with_reducible rfl | (simp only [forN, *, ↓reduceIte, not_true_eq_false, not_false_eq_true, and_self, and_true, true_and, and_false, false_and]; done) | rfl | (simp_all [forN]; done)) rfl))) rfl (by first | with_reducible rfl | (simp only [forN, *, ↓reduceIte, not_true_eq_false, not_false_eq_true, and_self, and_true, true_and, and_false, false_and]; done) | rfl | (simp_all [forN]; done))
theorem c_seed {d : Nat} {K : Nat → Nat × Nat} {I : Nat → Nat → Int32} {L : Nat → Nat → Int64} {R : Nat → Nat → Option Nat} {n s : Nat} {Q : Lo → Lm → Prop} {x : Int32} (hT : TK K R n) (kk : Q (.inl (some (.int (I 1 16)))) (K, up2 I 1 16 x, L, R, n, s)) : Ok (d + 1) 57 [.ref 0, .int x] (K, I, L, R, n, s) Q := by
  have hb := TK.s1 hT
  obtain ⟨-, -, hn⟩ := id hT
  refine Ok.enter (F := F_57) (ls := [.ref 0, .int x, lDead]) rfl rfl ?_
  refine wp_aload0 (pc' := 1) rfl rfl ?_
  refine wp_getRF (pc' := 4) rfl rfl (by first | exact TK.k1 hT rfl | exact TK.kk hT rfl | exact TK.r hT rfl | assumption) (by first | exact TK.k1 hT rfl | exact TK.kk hT rfl | exact TK.r hT rfl | assumption) rfl ?_
  refine wp_getI (pc' := 7) rfl rfl (by first | exact TK.k1 hT rfl | exact TK.kk hT rfl | exact TK.r hT rfl | assumption) rfl ?_
  refine wp_istore2 (pc' := 8) rfl (by first | rfl | assumption) rfl ?_
  refine wp_aload0 (pc' := 9) rfl rfl ?_
  refine wp_getRF (pc' := 12) rfl rfl (by first | exact TK.k1 hT rfl | exact TK.kk hT rfl | exact TK.r hT rfl | assumption) (by first | exact TK.k1 hT rfl | exact TK.kk hT rfl | exact TK.r hT rfl | assumption) rfl ?_
  refine wp_iload1 (pc' := 13) rfl rfl ?_
  refine wp_putI (pc' := 16) rfl rfl (by first | exact TK.k1 hT rfl | exact TK.kk hT rfl | exact TK.r hT rfl | assumption) (by omega) rfl ?_
  refine wp_iload2 (pc' := 17) rfl rfl ?_
  refine wp_iret rfl rfl rfl ?_
  exact kk
theorem c_deepest {d : Nat} {K : Nat → Nat × Nat} {I : Nat → Nat → Int32} {L : Nat → Nat → Int64} {R : Nat → Nat → Option Nat} {n s : Nat} {Q : Lo → Lm → Prop}  (hT : TK K R n) (kk : Q (.inl (some (.int (nI (mostN (I 2) 25))))) (K, I, L, R, n, s)) : Ok (d + 2) 50 [.ref 0] (K, I, L, R, n, s) Q := by
  have hb := TK.s1 hT
  obtain ⟨-, -, hn⟩ := id hT
  refine Ok.enter (F := F_50) (ls := [.ref 0]) rfl rfl ?_
  refine wp_aload0 (pc' := 1) rfl rfl ?_
  refine wp_getRF (pc' := 4) rfl rfl (by first | exact TK.k1 hT rfl | exact TK.kk hT rfl | exact TK.r hT rfl | assumption) (by first | exact TK.k1 hT rfl | exact TK.kk hT rfl | exact TK.r hT rfl | assumption) rfl ?_
  refine wp_getRF (pc' := 7) rfl rfl (by first | exact TK.k1 hT rfl | exact TK.kk hT rfl | exact TK.r hT rfl | assumption) (by first | exact TK.k1 hT rfl | exact TK.kk hT rfl | exact TK.r hT rfl | assumption) rfl ?_
  refine wp_bipush (v := nI 25) (pc' := 9) rfl rfl rfl ?_
  refine wp_callS2 (pc' := 12) rfl rfl rfl rfl rfl rfl ?_
  refine c_firstOfMost (w := 25) (l := 25) (TK.kk hT rfl) (by decide) (by decide) (by decide) ?_
  refine Cont.v ?_
  refine wp_iret rfl rfl rfl ?_
  exact kk
theorem c_wettest {d : Nat} {K : Nat → Nat × Nat} {I : Nat → Nat → Int32} {L : Nat → Nat → Int64} {R : Nat → Nat → Option Nat} {n s : Nat} {Q : Lo → Lm → Prop}  (hT : TK K R n) (kk : Q (.inl (some (.int (nI (mostN (I 3) 25))))) (K, I, L, R, n, s)) : Ok (d + 2) 51 [.ref 0] (K, I, L, R, n, s) Q := by
  have hb := TK.s1 hT
  obtain ⟨-, -, hn⟩ := id hT
  refine Ok.enter (F := F_51) (ls := [.ref 0]) rfl rfl ?_
  refine wp_aload0 (pc' := 1) rfl rfl ?_
  refine wp_getRF (pc' := 4) rfl rfl (by first | exact TK.k1 hT rfl | exact TK.kk hT rfl | exact TK.r hT rfl | assumption) (by first | exact TK.k1 hT rfl | exact TK.kk hT rfl | exact TK.r hT rfl | assumption) rfl ?_
  refine wp_getRF (pc' := 7) rfl rfl (by first | exact TK.k1 hT rfl | exact TK.kk hT rfl | exact TK.r hT rfl | assumption) (by first | exact TK.k1 hT rfl | exact TK.kk hT rfl | exact TK.r hT rfl | assumption) rfl ?_
  refine wp_bipush (v := nI 25) (pc' := 9) rfl rfl rfl ?_
  refine wp_callS2 (pc' := 12) rfl rfl rfl rfl rfl rfl ?_
  refine c_firstOfMost (w := 25) (l := 25) (TK.kk hT rfl) (by decide) (by decide) (by decide) ?_
  refine Cont.v ?_
  refine wp_iret rfl rfl rfl ?_
  exact kk
theorem c_richest {d : Nat} {K : Nat → Nat × Nat} {I : Nat → Nat → Int32} {L : Nat → Nat → Int64} {R : Nat → Nat → Option Nat} {n s : Nat} {Q : Lo → Lm → Prop}  (hT : TK K R n) {H : Nat} (hH : I 1 10 = nI H) (hH6 : H ≤ 6) (kk : Q (.inl (some (.int (richV (I 9) H)))) (K, I, L, R, n, s)) : Ok (d + 2) 52 [.ref 0] (K, I, L, R, n, s) Q := by
  have hb := TK.s1 hT
  obtain ⟨-, -, hn⟩ := id hT
  refine Ok.enter (F := F_52) (ls := [.ref 0]) rfl rfl ?_
  refine wp_aload0 (pc' := 1) rfl rfl ?_
  refine wp_getRF (pc' := 4) rfl rfl (by first | exact TK.k1 hT rfl | exact TK.kk hT rfl | exact TK.r hT rfl | assumption) (by first | exact TK.k1 hT rfl | exact TK.kk hT rfl | exact TK.r hT rfl | assumption) rfl ?_
  refine wp_getI (pc' := 7) rfl rfl (by first | exact TK.k1 hT rfl | exact TK.kk hT rfl | exact TK.r hT rfl | assumption) rfl ?_
  first | refine wp_ifneB (pc' := 10) rfl rfl ?_ ?_ | refine wp_ifne (pc' := 10) rfl rfl ?_ ?_
  · intro h7
    refine wp_aload0 (pc' := 15) rfl rfl ?_
    refine wp_getRF (pc' := 18) rfl rfl (by first | exact TK.k1 hT rfl | exact TK.kk hT rfl | exact TK.r hT rfl | assumption) (by first | exact TK.k1 hT rfl | exact TK.kk hT rfl | exact TK.r hT rfl | assumption) rfl ?_
    refine wp_getRF (pc' := 21) rfl rfl (by first | exact TK.k1 hT rfl | exact TK.kk hT rfl | exact TK.r hT rfl | assumption) (by first | exact TK.k1 hT rfl | exact TK.kk hT rfl | exact TK.r hT rfl | assumption) rfl ?_
    refine wp_aload0 (pc' := 22) rfl rfl ?_
    refine wp_getRF (pc' := 25) rfl rfl (by first | exact TK.k1 hT rfl | exact TK.kk hT rfl | exact TK.r hT rfl | assumption) (by first | exact TK.k1 hT rfl | exact TK.kk hT rfl | exact TK.r hT rfl | assumption) rfl ?_
    refine wp_getI (pc' := 28) rfl rfl (by first | exact TK.k1 hT rfl | exact TK.kk hT rfl | exact TK.r hT rfl | assumption) rfl ?_
    rw [hH]
    refine wp_callS2 (pc' := 31) rfl rfl rfl rfl rfl rfl ?_
    refine c_firstOfMost (w := 6) (l := H) (TK.kk hT rfl) (by decide) hH6 (Nat.pos_of_ne_zero (fun e => absurd (by rw [hH, e]) h7)) ?_
    refine Cont.v ?_
    refine wp_iret rfl rfl rfl ?_
    first | exact Qv kk (by unfold richV; rw [if_neg (fun e => absurd (by rw [hH, e]) h7)]) rfl | exact Qv kk (by unfold richV; rw [if_pos ((nI_eq (by omega) (by decide)).mp (hH ▸ h7))]) rfl
  · intro h7
    refine wp_iconst (v := (-1)) (pc' := 11) rfl rfl rfl ?_
    refine wp_goto rfl ?_
    refine wp_iret rfl rfl rfl ?_
    first | exact Qv kk (by unfold richV; rw [if_neg (fun e => absurd (by rw [hH, e]) h7)]) rfl | exact Qv kk (by unfold richV; rw [if_pos ((nI_eq (by omega) (by decide)).mp (hH ▸ h7))]) rfl
theorem c_staged {d : Nat} {K : Nat → Nat × Nat} {I : Nat → Nat → Int32} {L : Nat → Nat → Int64} {R : Nat → Nat → Option Nat} {n s : Nat} {Q : Lo → Lm → Prop} {x : Int32} (hT : TK K R n) (hf : n + 1 ≤ lmCells) (hs : s + 6 ≤ lmSlots) (kkE : ¬ InR x 3 → Q (.inr n) (exM 16 (K, I, L, R, n, s))) (kk : InR x 3 → Q (.inl (some (.int (stagS (vw 1 I) x 25)))) (K, I, L, R, n, s)) : Ok (d + 1) 197 [.ref 0, .int x] (K, I, L, R, n, s) Q := by
  have hb := TK.s1 hT
  obtain ⟨-, -, hn⟩ := id hT
  refine Ok.enter (F := F_197) (ls := [.ref 0, .int x, lDead, lDead]) rfl rfl ?_
  refine wp_iload1 (pc' := 1) rfl rfl ?_
  refine wp_iflt (pc' := 4) rfl rfl ?_ ?_
  · intro h1
    refine wp_raise (pc := 9) rfl rfl rfl rfl rfl rfl rfl rfl rfl (by decide) (by decide) (by omega) (by omega) rfl ?_
    first | exact kkE (InR_neg (by decide) (by first | assumption)) | exact kkE (InR_gt (by decide) (by first | assumption))
  · intro h1
    refine wp_iload1 (pc' := 5) rfl rfl ?_
    refine wp_iconst (v := nI 2) (pc' := 6) rfl rfl rfl ?_
    refine wp_icmple (pc' := 9) rfl rfl ?_ ?_
    · intro h6
      refine wp_iconst (v := nI 0) (pc' := 21) rfl rfl rfl ?_
      refine wp_istore2 (pc' := 22) rfl (by first | rfl | assumption) rfl ?_
      refine wp_iconst (v := nI 0) (pc' := 23) rfl rfl rfl ?_
      refine wp_istore3 (pc' := 24) rfl (by first | rfl | assumption) rfl ?_
      have lp24 : ∀ r (i : Nat), i + r = 25 → WP d F_197 24 [.ref 0, .int x, .int (stagS (vw 1 I) x i), .int (nI i)] [] (K, I, L, R, n, s) Q := by
        intro r; induction r with
        | zero =>
          intro i hi 
          have hi2 : i = 25 := by omega
          subst hi2
          refine wp_iload3 (pc' := 25) rfl rfl ?_
          refine wp_bipush (v := nI 25) (pc' := 27) rfl rfl rfl ?_
          refine wp_icmpgeT rfl (nI_nlt (by omega) (by omega)) ?_
          refine wp_iload2 (pc' := 62) rfl rfl ?_
          refine wp_iret rfl rfl rfl ?_
          exact kk (InR_le (by decide) (by first | assumption) (by first | assumption))
        | succ r ih =>
          intro i hi 
          have hlt : i < 25 := by omega
          refine wp_iload3 (pc' := 25) rfl rfl ?_
          refine wp_bipush (v := nI 25) (pc' := 27) rfl rfl rfl ?_
          refine wp_icmpgeF (pc' := 30) rfl (nI_lt (by omega) (by omega)) rfl ?_
          refine wp_aload0 (pc' := 31) rfl rfl ?_
          refine wp_getRF (pc' := 34) rfl rfl (by first | exact TK.k1 hT rfl | exact TK.kk hT rfl | exact TK.r hT rfl | assumption) (by first | exact TK.k1 hT rfl | exact TK.kk hT rfl | exact TK.r hT rfl | assumption) rfl ?_
          refine wp_getRF (pc' := 37) rfl rfl (by first | exact TK.k1 hT rfl | exact TK.kk hT rfl | exact TK.r hT rfl | assumption) (by first | exact TK.k1 hT rfl | exact TK.kk hT rfl | exact TK.r hT rfl | assumption) rfl ?_
          refine wp_iload3 (pc' := 38) rfl rfl ?_
          refine wp_iald _ (pc' := 39) rfl (by first | exact TK.k1 hT rfl | exact TK.kk hT rfl | exact TK.r hT rfl | assumption) (by with_reducible rfl) (by omega) (by first | decide | assumption | omega) rfl ?_
          refine wp_iload1 (pc' := 40) rfl rfl ?_
          refine wp_icmpne (pc' := 43) rfl rfl ?_ ?_
          · intro h40
            first | refine wp_iinc3 (w := nI 1) (pc' := 58) rfl rfl rfl (by with_reducible exact nI_add _ _) rfl ?_ | refine wp_iinc3 (w := nI 1) (pc' := 58) rfl rfl rfl rfl rfl ?_
            refine wp_goto rfl ?_
            exact WP.cg (ih (i + 1) (by omega)) (lC1 (lI1 (by first | rfl | (simp only [stagS, forN, vw, *, ↓reduceIte]; done)) (lI1 (by first | rfl | (simp only [stagS, forN, vw, *, ↓reduceIte]; done)) (lI1 (by first | rfl | (simp only [stagS, forN, vw, *, ↓reduceIte]; done)) rfl)))) rfl (by first | with_reducible rfl | (simp only [forN, *, ↓reduceIte, not_true_eq_false, not_false_eq_true, and_self, and_true, true_and, and_false, false_and]; done) | rfl | (simp_all [forN]; done))
          · intro h40
            refine wp_iload2 (pc' := 44) rfl rfl ?_
            refine wp_aload0 (pc' := 45) rfl rfl ?_
            refine wp_getRF (pc' := 48) rfl rfl (by first | exact TK.k1 hT rfl | exact TK.kk hT rfl | exact TK.r hT rfl | assumption) (by first | exact TK.k1 hT rfl | exact TK.kk hT rfl | exact TK.r hT rfl | assumption) rfl ?_
            refine wp_getRF (pc' := 51) rfl rfl (by first | exact TK.k1 hT rfl | exact TK.kk hT rfl | exact TK.r hT rfl | assumption) (by first | exact TK.k1 hT rfl | exact TK.kk hT rfl | exact TK.r hT rfl | assumption) rfl ?_
            refine wp_iload3 (pc' := 52) rfl rfl ?_
            refine wp_iald _ (pc' := 53) rfl (by first | exact TK.k1 hT rfl | exact TK.kk hT rfl | exact TK.r hT rfl | assumption) (by with_reducible rfl) (by omega) (by first | decide | assumption | omega) rfl ?_
            first | refine wp_iaddN (pc' := 54) rfl (by with_reducible rfl) (by with_reducible rfl) rfl ?_ | refine wp_iadd (pc' := 54) rfl rfl ?_
            refine wp_istore2 (pc' := 55) rfl (by first | rfl | assumption) rfl ?_
            first | refine wp_iinc3 (w := nI 1) (pc' := 58) rfl rfl rfl (by with_reducible exact nI_add _ _) rfl ?_ | refine wp_iinc3 (w := nI 1) (pc' := 58) rfl rfl rfl rfl rfl ?_
            refine wp_goto rfl ?_
            exact WP.cg (ih (i + 1) (by omega)) (lC1 (lI1 (by first | rfl | (simp only [stagS, forN, vw, *, ↓reduceIte]; done)) (lI1 (by first | rfl | (simp only [stagS, forN, vw, *, ↓reduceIte]; done)) (lI1 (by first | rfl | (simp only [stagS, forN, vw, *, ↓reduceIte]; done)) rfl)))) rfl (by first | with_reducible rfl | (simp only [forN, *, ↓reduceIte, not_true_eq_false, not_false_eq_true, and_self, and_true, true_and, and_false, false_and]; done) | rfl | (simp_all [forN]; done))
      exact WP.cg (lp24 (25 - (0)) (0) (by omega)) (lC1 (lI1 (by first | with_reducible rfl | (simp only [forN, *, ↓reduceIte, not_true_eq_false, not_false_eq_true, and_self, and_true, true_and, and_false, false_and]; done) | rfl | (simp_all [forN]; done)) (lI1 (by first | with_reducible rfl | (simp only [forN, *, ↓reduceIte, not_true_eq_false, not_false_eq_true, and_self, and_true, true_and, and_false, false_and]; done) | rfl | (simp_all [forN]; done)) (lI1 (by first | with_reducible rfl | (simp only [forN, *, ↓reduceIte, not_true_eq_false, not_false_eq_true, and_self, and_true, true_and, and_false, false_and]; done) | rfl | (simp_all [forN]; done)) rfl)))) rfl (by first | with_reducible rfl | (simp only [forN, *, ↓reduceIte, not_true_eq_false, not_false_eq_true, and_self, and_true, true_and, and_false, false_and]; done) | rfl | (simp_all [forN]; done))
    · intro h6
      refine wp_raise (pc := 9) rfl rfl rfl rfl rfl rfl rfl rfl rfl (by decide) (by decide) (by omega) (by omega) rfl ?_
      first | exact kkE (InR_neg (by decide) (by first | assumption)) | exact kkE (InR_gt (by decide) (by first | assumption))
theorem c_twins {d : Nat} {K : Nat → Nat × Nat} {I : Nat → Nat → Int32} {L : Nat → Nat → Int64} {R : Nat → Nat → Option Nat} {n s : Nat} {Q : Lo → Lm → Prop}  (hT : TK K R n) {H : Nat} (hH : I 1 10 = nI H) (hH6 : H ≤ 6) (kk : Q (.inl (some (.int (twinS (vw 1 I) H H)))) (K, I, L, R, n, s)) : Ok (d + 1) 55 [.ref 0] (K, I, L, R, n, s) Q := by
  have hb := TK.s1 hT
  obtain ⟨-, -, hn⟩ := id hT
  refine Ok.enter (F := F_55) (ls := [.ref 0, lDead, lDead, lDead]) rfl rfl ?_
  refine wp_iconst (v := nI 0) (pc' := 1) rfl rfl rfl ?_
  refine wp_istore1 (pc' := 2) rfl (by first | rfl | assumption) rfl ?_
  refine wp_iconst (v := nI 0) (pc' := 3) rfl rfl rfl ?_
  refine wp_istore2 (pc' := 4) rfl (by first | rfl | assumption) rfl ?_
  have lp4 : ∀ r (i : Nat) (v3 : Value), i + r = H → isL v3 = false → WP d F_55 4 [.ref 0, .int (twinS (vw 1 I) H i), .int (nI i), v3] [] (K, I, L, R, n, s) Q := by
    intro r; induction r with
    | zero =>
      intro i v3 hi hv0
      have hi2 : i = H := by omega
      subst hi2
      refine wp_iload2 (pc' := 5) rfl rfl ?_
      refine wp_aload0 (pc' := 6) rfl rfl ?_
      refine wp_getRF (pc' := 9) rfl rfl (by first | exact TK.k1 hT rfl | exact TK.kk hT rfl | exact TK.r hT rfl | assumption) (by first | exact TK.k1 hT rfl | exact TK.kk hT rfl | exact TK.r hT rfl | assumption) rfl ?_
      refine wp_getI (pc' := 12) rfl rfl (by first | exact TK.k1 hT rfl | exact TK.kk hT rfl | exact TK.r hT rfl | assumption) rfl ?_
      refine wp_icmpgeT rfl (by rw [hH]; exact nI_nlt (by omega) (by omega)) ?_
      refine wp_iload1 (pc' := 88) rfl rfl ?_
      refine wp_iret rfl rfl rfl ?_
      exact kk
    | succ r ih =>
      intro i v3 hi hv0
      have hlt : i < H := by omega
      refine wp_iload2 (pc' := 5) rfl rfl ?_
      refine wp_aload0 (pc' := 6) rfl rfl ?_
      refine wp_getRF (pc' := 9) rfl rfl (by first | exact TK.k1 hT rfl | exact TK.kk hT rfl | exact TK.r hT rfl | assumption) (by first | exact TK.k1 hT rfl | exact TK.kk hT rfl | exact TK.r hT rfl | assumption) rfl ?_
      refine wp_getI (pc' := 12) rfl rfl (by first | exact TK.k1 hT rfl | exact TK.kk hT rfl | exact TK.r hT rfl | assumption) rfl ?_
      refine wp_icmpgeF (pc' := 15) rfl (by rw [hH]; exact nI_lt (by omega) (by omega)) rfl ?_
      refine wp_iload2 (pc' := 16) rfl rfl ?_
      refine wp_iconst (v := nI 1) (pc' := 17) rfl rfl rfl ?_
      first | refine wp_iaddN (pc' := 18) rfl (by with_reducible rfl) (by with_reducible rfl) rfl ?_ | refine wp_iadd (pc' := 18) rfl rfl ?_
      refine wp_istore3 (pc' := 19) rfl (by first | rfl | assumption) rfl ?_
      have lp19 : ∀ rb (j : Nat), j + rb = H → i + 1 ≤ j → WP d F_55 19 [.ref 0, .int (twinI (vw 1 I) i (twinS (vw 1 I) H i) (i + 1) (j - (i + 1))), .int (nI i), .int (nI j)] [] (K, I, L, R, n, s) Q := by
        intro rb; induction rb with
        | zero =>
          intro j hib hvb0
          have hi2b : j = H := by omega
          subst hi2b
          refine wp_iload3 (pc' := 20) rfl rfl ?_
          refine wp_aload0 (pc' := 21) rfl rfl ?_
          refine wp_getRF (pc' := 24) rfl rfl (by first | exact TK.k1 hT rfl | exact TK.kk hT rfl | exact TK.r hT rfl | assumption) (by first | exact TK.k1 hT rfl | exact TK.kk hT rfl | exact TK.r hT rfl | assumption) rfl ?_
          refine wp_getI (pc' := 27) rfl rfl (by first | exact TK.k1 hT rfl | exact TK.kk hT rfl | exact TK.r hT rfl | assumption) rfl ?_
          refine wp_icmpgeT rfl (by rw [hH]; exact nI_nlt (by omega) (by omega)) ?_
          first | refine wp_iinc2 (w := nI 1) (pc' := 84) rfl rfl rfl (by with_reducible exact nI_add _ _) rfl ?_ | refine wp_iinc2 (w := nI 1) (pc' := 84) rfl rfl rfl rfl rfl ?_
          refine wp_goto rfl ?_
          exact WP.cg (ih (i + 1) _ (by omega) (by first | rfl | assumption)) (lC1 (lI1 (by first | with_reducible rfl | (simp only [forN, *, ↓reduceIte, not_true_eq_false, not_false_eq_true, and_self, and_true, true_and, and_false, false_and]; done) | rfl | (simp_all [forN]; done)) (lI1 (by first | with_reducible rfl | (simp only [forN, *, ↓reduceIte, not_true_eq_false, not_false_eq_true, and_self, and_true, true_and, and_false, false_and]; done) | rfl | (simp_all [forN]; done)) (lC1 rfl)))) rfl (by first | with_reducible rfl | (simp only [forN, *, ↓reduceIte, not_true_eq_false, not_false_eq_true, and_self, and_true, true_and, and_false, false_and]; done) | rfl | (simp_all [forN]; done))
        | succ rb ihb =>
          intro j hib hvb0
          have hltb : j < H := by omega
          have hz : j + 1 - (i + 1) = (j - (i + 1)) + 1 := by omega
          have hy : i + 1 + (j - (i + 1)) = j := by omega
          refine wp_iload3 (pc' := 20) rfl rfl ?_
          refine wp_aload0 (pc' := 21) rfl rfl ?_
          refine wp_getRF (pc' := 24) rfl rfl (by first | exact TK.k1 hT rfl | exact TK.kk hT rfl | exact TK.r hT rfl | assumption) (by first | exact TK.k1 hT rfl | exact TK.kk hT rfl | exact TK.r hT rfl | assumption) rfl ?_
          refine wp_getI (pc' := 27) rfl rfl (by first | exact TK.k1 hT rfl | exact TK.kk hT rfl | exact TK.r hT rfl | assumption) rfl ?_
          refine wp_icmpgeF (pc' := 30) rfl (by rw [hH]; exact nI_lt (by omega) (by omega)) rfl ?_
          refine wp_aload0 (pc' := 31) rfl rfl ?_
          refine wp_getRF (pc' := 34) rfl rfl (by first | exact TK.k1 hT rfl | exact TK.kk hT rfl | exact TK.r hT rfl | assumption) (by first | exact TK.k1 hT rfl | exact TK.kk hT rfl | exact TK.r hT rfl | assumption) rfl ?_
          refine wp_getRF (pc' := 37) rfl rfl (by first | exact TK.k1 hT rfl | exact TK.kk hT rfl | exact TK.r hT rfl | assumption) (by first | exact TK.k1 hT rfl | exact TK.kk hT rfl | exact TK.r hT rfl | assumption) rfl ?_
          refine wp_iload2 (pc' := 38) rfl rfl ?_
          refine wp_iald _ (pc' := 39) rfl (by first | exact TK.k1 hT rfl | exact TK.kk hT rfl | exact TK.r hT rfl | assumption) (by with_reducible rfl) (by omega) (by first | decide | assumption | omega) rfl ?_
          refine wp_aload0 (pc' := 40) rfl rfl ?_
          refine wp_getRF (pc' := 43) rfl rfl (by first | exact TK.k1 hT rfl | exact TK.kk hT rfl | exact TK.r hT rfl | assumption) (by first | exact TK.k1 hT rfl | exact TK.kk hT rfl | exact TK.r hT rfl | assumption) rfl ?_
          refine wp_getRF (pc' := 46) rfl rfl (by first | exact TK.k1 hT rfl | exact TK.kk hT rfl | exact TK.r hT rfl | assumption) (by first | exact TK.k1 hT rfl | exact TK.kk hT rfl | exact TK.r hT rfl | assumption) rfl ?_
          refine wp_iload3 (pc' := 47) rfl rfl ?_
          refine wp_iald _ (pc' := 48) rfl (by first | exact TK.k1 hT rfl | exact TK.kk hT rfl | exact TK.r hT rfl | assumption) (by with_reducible rfl) (by omega) (by first | decide | assumption | omega) rfl ?_
          refine wp_icmpne (pc' := 51) rfl rfl ?_ ?_
          · intro h48
            first | refine wp_iinc3 (w := nI 1) (pc' := 78) rfl rfl rfl (by with_reducible exact nI_add _ _) rfl ?_ | refine wp_iinc3 (w := nI 1) (pc' := 78) rfl rfl rfl rfl rfl ?_
            refine wp_goto rfl ?_
            exact WP.cg (ihb (j + 1) (by omega) (by omega)) (lC1 (lI1 (by first | rfl | (rw [hz]; simp only [twinI, forN, hy, vw, *, ↓reduceIte, and_self, and_true, true_and, and_false, false_and]; done) | (rw [hz]; simp_all [twinI, forN, vw]; done)) (lI1 (by first | rfl | (rw [hz]; simp only [twinI, forN, hy, vw, *, ↓reduceIte, and_self, and_true, true_and, and_false, false_and]; done) | (rw [hz]; simp_all [twinI, forN, vw]; done)) (lI1 (by first | rfl | (rw [hz]; simp only [twinI, forN, hy, vw, *, ↓reduceIte, and_self, and_true, true_and, and_false, false_and]; done) | (rw [hz]; simp_all [twinI, forN, vw]; done)) rfl)))) rfl (by first | with_reducible rfl | (simp only [forN, *, ↓reduceIte, not_true_eq_false, not_false_eq_true, and_self, and_true, true_and, and_false, false_and]; done) | rfl | (simp_all [forN]; done))
          · intro h48
            refine wp_aload0 (pc' := 52) rfl rfl ?_
            refine wp_getRF (pc' := 55) rfl rfl (by first | exact TK.k1 hT rfl | exact TK.kk hT rfl | exact TK.r hT rfl | assumption) (by first | exact TK.k1 hT rfl | exact TK.kk hT rfl | exact TK.r hT rfl | assumption) rfl ?_
            refine wp_getRF (pc' := 58) rfl rfl (by first | exact TK.k1 hT rfl | exact TK.kk hT rfl | exact TK.r hT rfl | assumption) (by first | exact TK.k1 hT rfl | exact TK.kk hT rfl | exact TK.r hT rfl | assumption) rfl ?_
            refine wp_iload2 (pc' := 59) rfl rfl ?_
            refine wp_iald _ (pc' := 60) rfl (by first | exact TK.k1 hT rfl | exact TK.kk hT rfl | exact TK.r hT rfl | assumption) (by with_reducible rfl) (by omega) (by first | decide | assumption | omega) rfl ?_
            refine wp_aload0 (pc' := 61) rfl rfl ?_
            refine wp_getRF (pc' := 64) rfl rfl (by first | exact TK.k1 hT rfl | exact TK.kk hT rfl | exact TK.r hT rfl | assumption) (by first | exact TK.k1 hT rfl | exact TK.kk hT rfl | exact TK.r hT rfl | assumption) rfl ?_
            refine wp_getRF (pc' := 67) rfl rfl (by first | exact TK.k1 hT rfl | exact TK.kk hT rfl | exact TK.r hT rfl | assumption) (by first | exact TK.k1 hT rfl | exact TK.kk hT rfl | exact TK.r hT rfl | assumption) rfl ?_
            refine wp_iload3 (pc' := 68) rfl rfl ?_
            refine wp_iald _ (pc' := 69) rfl (by first | exact TK.k1 hT rfl | exact TK.kk hT rfl | exact TK.r hT rfl | assumption) (by with_reducible rfl) (by omega) (by first | decide | assumption | omega) rfl ?_
            refine wp_icmpne (pc' := 72) rfl rfl ?_ ?_
            · intro h69
              first | refine wp_iinc3 (w := nI 1) (pc' := 78) rfl rfl rfl (by with_reducible exact nI_add _ _) rfl ?_ | refine wp_iinc3 (w := nI 1) (pc' := 78) rfl rfl rfl rfl rfl ?_
              refine wp_goto rfl ?_
              exact WP.cg (ihb (j + 1) (by omega) (by omega)) (lC1 (lI1 (by first | rfl | (rw [hz]; simp only [twinI, forN, hy, vw, *, ↓reduceIte, and_self, and_true, true_and, and_false, false_and]; done) | (rw [hz]; simp_all [twinI, forN, vw]; done)) (lI1 (by first | rfl | (rw [hz]; simp only [twinI, forN, hy, vw, *, ↓reduceIte, and_self, and_true, true_and, and_false, false_and]; done) | (rw [hz]; simp_all [twinI, forN, vw]; done)) (lI1 (by first | rfl | (rw [hz]; simp only [twinI, forN, hy, vw, *, ↓reduceIte, and_self, and_true, true_and, and_false, false_and]; done) | (rw [hz]; simp_all [twinI, forN, vw]; done)) rfl)))) rfl (by first | with_reducible rfl | (simp only [forN, *, ↓reduceIte, not_true_eq_false, not_false_eq_true, and_self, and_true, true_and, and_false, false_and]; done) | rfl | (simp_all [forN]; done))
            · intro h69
              first | refine wp_iinc1 (w := nI 1) (pc' := 75) rfl rfl rfl (by with_reducible exact nI_add _ _) rfl ?_ | refine wp_iinc1 (w := nI 1) (pc' := 75) rfl rfl rfl rfl rfl ?_
              first | refine wp_iinc3 (w := nI 1) (pc' := 78) rfl rfl rfl (by with_reducible exact nI_add _ _) rfl ?_ | refine wp_iinc3 (w := nI 1) (pc' := 78) rfl rfl rfl rfl rfl ?_
              refine wp_goto rfl ?_
              exact WP.cg (ihb (j + 1) (by omega) (by omega)) (lC1 (lI1 (by first | rfl | (rw [hz]; simp only [twinI, forN, hy, vw, *, ↓reduceIte, and_self, and_true, true_and, and_false, false_and]; done) | (rw [hz]; simp_all [twinI, forN, vw]; done)) (lI1 (by first | rfl | (rw [hz]; simp only [twinI, forN, hy, vw, *, ↓reduceIte, and_self, and_true, true_and, and_false, false_and]; done) | (rw [hz]; simp_all [twinI, forN, vw]; done)) (lI1 (by first | rfl | (rw [hz]; simp only [twinI, forN, hy, vw, *, ↓reduceIte, and_self, and_true, true_and, and_false, false_and]; done) | (rw [hz]; simp_all [twinI, forN, vw]; done)) rfl)))) rfl (by first | with_reducible rfl | (simp only [forN, *, ↓reduceIte, not_true_eq_false, not_false_eq_true, and_self, and_true, true_and, and_false, false_and]; done) | rfl | (simp_all [forN]; done))
      exact WP.cg (lp19 (H - (i + 1)) (i + 1) (by omega) (by omega)) (lC1 (lI1 (by first | rfl | (rw [Nat.sub_self]; rfl)) (lI1 (by first | rfl | (rw [Nat.sub_self]; rfl)) (lI1 (by first | rfl | (rw [Nat.sub_self]; rfl)) rfl)))) rfl (by first | with_reducible rfl | (simp only [forN, *, ↓reduceIte, not_true_eq_false, not_false_eq_true, and_self, and_true, true_and, and_false, false_and]; done) | rfl | (simp_all [forN]; done))
  exact WP.cg (lp4 (H - (0)) (0) _ (by omega) (by first | rfl | assumption)) (lC1 (lI1 (by first | with_reducible rfl | (simp only [forN, *, ↓reduceIte, not_true_eq_false, not_false_eq_true, and_self, and_true, true_and, and_false, false_and]; done) | rfl | (simp_all [forN]; done)) (lI1 (by first | with_reducible rfl | (simp only [forN, *, ↓reduceIte, not_true_eq_false, not_false_eq_true, and_self, and_true, true_and, and_false, false_and]; done) | rfl | (simp_all [forN]; done)) (lC1 rfl)))) rfl (by first | with_reducible rfl | (simp only [forN, *, ↓reduceIte, not_true_eq_false, not_false_eq_true, and_self, and_true, true_and, and_false, false_and]; done) | rfl | (simp_all [forN]; done))
theorem c_even {d : Nat} {K : Nat → Nat × Nat} {I : Nat → Nat → Int32} {L : Nat → Nat → Int64} {R : Nat → Nat → Option Nat} {n s : Nat} {Q : Lo → Lm → Prop}  (hT : TK K R n) {H : Nat} (hH : I 1 10 = nI H) (hH6 : H ≤ 6) (kk : Q (.inl (some (.int (evenC (vw 1 I) H)))) (K, I, L, R, n, s)) : Ok (d + 2) 41 [.ref 0] (K, I, L, R, n, s) Q := by
  have hb := TK.s1 hT
  obtain ⟨-, -, hn⟩ := id hT
  refine Ok.enter (F := F_41) (ls := [.ref 0, lDead, lDead, lDead, lDead, lDead, lDead]) rfl rfl ?_
  refine wp_aload0 (pc' := 1) rfl rfl ?_
  refine wp_getRF (pc' := 4) rfl rfl (by first | exact TK.k1 hT rfl | exact TK.kk hT rfl | exact TK.r hT rfl | assumption) (by first | exact TK.k1 hT rfl | exact TK.kk hT rfl | exact TK.r hT rfl | assumption) rfl ?_
  refine wp_getI (pc' := 7) rfl rfl (by first | exact TK.k1 hT rfl | exact TK.kk hT rfl | exact TK.r hT rfl | assumption) rfl ?_
  first | refine wp_ifneB (pc' := 10) rfl rfl ?_ ?_ | refine wp_ifne (pc' := 10) rfl rfl ?_ ?_
  · intro h7
    have hH0 : 0 < H := Nat.pos_of_ne_zero (fun e => h7 (by rw [hH, e]))
    refine wp_aload0 (pc' := 13) rfl rfl ?_
    refine wp_getRF (pc' := 16) rfl rfl (by first | exact TK.k1 hT rfl | exact TK.kk hT rfl | exact TK.r hT rfl | assumption) (by first | exact TK.k1 hT rfl | exact TK.kk hT rfl | exact TK.r hT rfl | assumption) rfl ?_
    refine wp_getRF (pc' := 19) rfl rfl (by first | exact TK.k1 hT rfl | exact TK.kk hT rfl | exact TK.r hT rfl | assumption) (by first | exact TK.k1 hT rfl | exact TK.kk hT rfl | exact TK.r hT rfl | assumption) rfl ?_
    refine wp_callS1 (pc' := 22) rfl rfl rfl rfl rfl rfl ?_
    refine c_sum (by first | exact TK.k1 hT rfl | exact TK.kk hT rfl | exact TK.r hT rfl | assumption) (by decide) ?_
    refine Cont.v ?_
    refine wp_istore1 (pc' := 23) rfl (by first | rfl | assumption) rfl ?_
    refine wp_iload1 (pc' := 24) rfl rfl ?_
    refine wp_aload0 (pc' := 25) rfl rfl ?_
    refine wp_getRF (pc' := 28) rfl rfl (by first | exact TK.k1 hT rfl | exact TK.kk hT rfl | exact TK.r hT rfl | assumption) (by first | exact TK.k1 hT rfl | exact TK.kk hT rfl | exact TK.r hT rfl | assumption) rfl ?_
    refine wp_getI (pc' := 31) rfl rfl (by first | exact TK.k1 hT rfl | exact TK.kk hT rfl | exact TK.r hT rfl | assumption) rfl ?_
    rw [hH]
    first | refine wp_idivN (pc' := 32) rfl (by with_reducible rfl) (by with_reducible rfl) (by omega) (by omega) (by omega) rfl ?_ | refine wp_idiv (pc' := 32) rfl (nI_ne0 hH0 (by omega)) rfl ?_
    refine wp_istore2 (pc' := 33) rfl (by first | rfl | assumption) rfl ?_
    refine wp_iload1 (pc' := 34) rfl rfl ?_
    refine wp_aload0 (pc' := 35) rfl rfl ?_
    refine wp_getRF (pc' := 38) rfl rfl (by first | exact TK.k1 hT rfl | exact TK.kk hT rfl | exact TK.r hT rfl | assumption) (by first | exact TK.k1 hT rfl | exact TK.kk hT rfl | exact TK.r hT rfl | assumption) rfl ?_
    refine wp_getI (pc' := 41) rfl rfl (by first | exact TK.k1 hT rfl | exact TK.kk hT rfl | exact TK.r hT rfl | assumption) rfl ?_
    rw [hH]
    first | refine wp_iremN (pc' := 42) rfl (by with_reducible rfl) (by with_reducible rfl) (by omega) (by omega) (by omega) rfl ?_ | refine wp_irem (pc' := 42) rfl (nI_ne0 hH0 (by omega)) rfl ?_
    refine wp_istore3 (pc' := 43) rfl (by first | rfl | assumption) rfl ?_
    refine wp_iconst (v := nI 0) (pc' := 44) rfl rfl rfl ?_
    refine wp_istore4 (pc' := 46) rfl (by first | rfl | assumption) rfl ?_
    refine wp_iconst (v := nI 0) (pc' := 47) rfl rfl rfl ?_
    refine wp_istore5 (pc' := 49) rfl (by first | rfl | assumption) rfl ?_
    have lp49 : ∀ r (i : Nat) (v6 : Value), i + r = H → isL v6 = false → WP (d + 1) F_41 49 [.ref 0, .int (sumN (I 9) 6), .int (sumN (I 9) 6 / nI H), .int (evenF (vw 1 I) H i).1, .int (evenF (vw 1 I) H i).2, .int (nI i), v6] [] (K, I, L, R, n, s) Q := by
      intro r; induction r with
      | zero =>
        intro i v6 hi hv0
        have hi2 : i = H := by omega
        subst hi2
        refine wp_iload5 (pc' := 51) rfl rfl ?_
        refine wp_aload0 (pc' := 52) rfl rfl ?_
        refine wp_getRF (pc' := 55) rfl rfl (by first | exact TK.k1 hT rfl | exact TK.kk hT rfl | exact TK.r hT rfl | assumption) (by first | exact TK.k1 hT rfl | exact TK.kk hT rfl | exact TK.r hT rfl | assumption) rfl ?_
        refine wp_getI (pc' := 58) rfl rfl (by first | exact TK.k1 hT rfl | exact TK.kk hT rfl | exact TK.r hT rfl | assumption) rfl ?_
        refine wp_icmpgeT rfl (by rw [hH]; exact nI_nlt (by omega) (by omega)) ?_
        refine wp_iload4 (pc' := 109) rfl rfl ?_
        refine wp_iret rfl rfl rfl ?_
        exact Qv kk (by unfold evenC; rw [if_neg (by omega)]) rfl
      | succ r ih =>
        intro i v6 hi hv0
        have hlt : i < H := by omega
        have hs : evenF (vw 1 I) H (i + 1) = evenS (vw 1 I) (sumN (I 9) 6 / nI H) i (evenF (vw 1 I) H i) := rfl
        generalize hp : evenF (vw 1 I) H i = p at hs ⊢
        refine wp_iload5 (pc' := 51) rfl rfl ?_
        refine wp_aload0 (pc' := 52) rfl rfl ?_
        refine wp_getRF (pc' := 55) rfl rfl (by first | exact TK.k1 hT rfl | exact TK.kk hT rfl | exact TK.r hT rfl | assumption) (by first | exact TK.k1 hT rfl | exact TK.kk hT rfl | exact TK.r hT rfl | assumption) rfl ?_
        refine wp_getI (pc' := 58) rfl rfl (by first | exact TK.k1 hT rfl | exact TK.kk hT rfl | exact TK.r hT rfl | assumption) rfl ?_
        refine wp_icmpgeF (pc' := 61) rfl (by rw [hH]; exact nI_lt (by omega) (by omega)) rfl ?_
        refine wp_aload0 (pc' := 62) rfl rfl ?_
        refine wp_getRF (pc' := 65) rfl rfl (by first | exact TK.k1 hT rfl | exact TK.kk hT rfl | exact TK.r hT rfl | assumption) (by first | exact TK.k1 hT rfl | exact TK.kk hT rfl | exact TK.r hT rfl | assumption) rfl ?_
        refine wp_getRF (pc' := 68) rfl rfl (by first | exact TK.k1 hT rfl | exact TK.kk hT rfl | exact TK.r hT rfl | assumption) (by first | exact TK.k1 hT rfl | exact TK.kk hT rfl | exact TK.r hT rfl | assumption) rfl ?_
        refine wp_iload5 (pc' := 70) rfl rfl ?_
        refine wp_iald _ (pc' := 71) rfl (by first | exact TK.k1 hT rfl | exact TK.kk hT rfl | exact TK.r hT rfl | assumption) (by with_reducible rfl) (by omega) (by first | decide | assumption | omega) rfl ?_
        refine wp_iload2 (pc' := 72) rfl rfl ?_
        first | refine wp_isubN (pc' := 73) rfl (by with_reducible rfl) (by with_reducible rfl) (by omega) rfl ?_ | refine wp_isub (pc' := 73) rfl rfl ?_
        refine wp_istore6 (pc' := 75) rfl (by first | rfl | assumption) rfl ?_
        refine wp_iload6 (pc' := 77) rfl rfl ?_
        refine wp_ifle (pc' := 80) rfl rfl ?_ ?_
        · intro h77
          refine wp_iload4 (pc' := 92) rfl rfl ?_
          refine wp_iload6 (pc' := 94) rfl rfl ?_
          refine wp_iconst (v := nI 0) (pc' := 95) rfl rfl rfl ?_
          refine wp_max (pc' := 98) rfl rfl rfl rfl ?_
          first | refine wp_iaddN (pc' := 99) rfl (by with_reducible rfl) (by with_reducible rfl) rfl ?_ | refine wp_iadd (pc' := 99) rfl rfl ?_
          refine wp_istore4 (pc' := 101) rfl (by first | rfl | assumption) rfl ?_
          first | refine wp_iinc5 (w := nI 1) (pc' := 104) rfl rfl rfl (by with_reducible exact nI_add _ _) rfl ?_ | refine wp_iinc5 (w := nI 1) (pc' := 104) rfl rfl rfl rfl rfl ?_
          refine wp_goto rfl ?_
          exact WP.cg (ih (i + 1) _ (by omega) (by first | rfl | assumption)) (lC1 (lI1 (by first | with_reducible rfl | (rw [hs]; simp only [evenS, v1_0, v1_1, v1_2, v1_3, v1_4, v1_5, v1_6, v1_7, v1_8, v1_9, v1_10, v1_11, h77, h81, ↓reduceIte, and_self, and_true, true_and, and_false, false_and]; done) | (rw [hs]; simp only [evenS, v1_0, v1_1, v1_2, v1_3, v1_4, v1_5, v1_6, v1_7, v1_8, v1_9, v1_10, v1_11, h77, ↓reduceIte, and_self, and_true, true_and, and_false, false_and]; done)) (lI1 (by first | with_reducible rfl | (rw [hs]; simp only [evenS, v1_0, v1_1, v1_2, v1_3, v1_4, v1_5, v1_6, v1_7, v1_8, v1_9, v1_10, v1_11, h77, h81, ↓reduceIte, and_self, and_true, true_and, and_false, false_and]; done) | (rw [hs]; simp only [evenS, v1_0, v1_1, v1_2, v1_3, v1_4, v1_5, v1_6, v1_7, v1_8, v1_9, v1_10, v1_11, h77, ↓reduceIte, and_self, and_true, true_and, and_false, false_and]; done)) (lI1 (by first | with_reducible rfl | (rw [hs]; simp only [evenS, v1_0, v1_1, v1_2, v1_3, v1_4, v1_5, v1_6, v1_7, v1_8, v1_9, v1_10, v1_11, h77, h81, ↓reduceIte, and_self, and_true, true_and, and_false, false_and]; done) | (rw [hs]; simp only [evenS, v1_0, v1_1, v1_2, v1_3, v1_4, v1_5, v1_6, v1_7, v1_8, v1_9, v1_10, v1_11, h77, ↓reduceIte, and_self, and_true, true_and, and_false, false_and]; done)) (lI1 (by first | with_reducible rfl | (rw [hs]; simp only [evenS, v1_0, v1_1, v1_2, v1_3, v1_4, v1_5, v1_6, v1_7, v1_8, v1_9, v1_10, v1_11, h77, h81, ↓reduceIte, and_self, and_true, true_and, and_false, false_and]; done) | (rw [hs]; simp only [evenS, v1_0, v1_1, v1_2, v1_3, v1_4, v1_5, v1_6, v1_7, v1_8, v1_9, v1_10, v1_11, h77, ↓reduceIte, and_self, and_true, true_and, and_false, false_and]; done)) (lI1 (by first | with_reducible rfl | (rw [hs]; simp only [evenS, v1_0, v1_1, v1_2, v1_3, v1_4, v1_5, v1_6, v1_7, v1_8, v1_9, v1_10, v1_11, h77, h81, ↓reduceIte, and_self, and_true, true_and, and_false, false_and]; done) | (rw [hs]; simp only [evenS, v1_0, v1_1, v1_2, v1_3, v1_4, v1_5, v1_6, v1_7, v1_8, v1_9, v1_10, v1_11, h77, ↓reduceIte, and_self, and_true, true_and, and_false, false_and]; done)) (lC1 rfl))))))) rfl (by first | with_reducible rfl | (simp only [forN, *, ↓reduceIte, not_true_eq_false, not_false_eq_true, and_self, and_true, true_and, and_false, false_and]; done) | rfl | (simp_all [forN]; done))
        · intro h77
          refine wp_iload3 (pc' := 81) rfl rfl ?_
          refine wp_ifle (pc' := 84) rfl rfl ?_ ?_
          · intro h81
            refine wp_iload4 (pc' := 92) rfl rfl ?_
            refine wp_iload6 (pc' := 94) rfl rfl ?_
            refine wp_iconst (v := nI 0) (pc' := 95) rfl rfl rfl ?_
            refine wp_max (pc' := 98) rfl rfl rfl rfl ?_
            first | refine wp_iaddN (pc' := 99) rfl (by with_reducible rfl) (by with_reducible rfl) rfl ?_ | refine wp_iadd (pc' := 99) rfl rfl ?_
            refine wp_istore4 (pc' := 101) rfl (by first | rfl | assumption) rfl ?_
            first | refine wp_iinc5 (w := nI 1) (pc' := 104) rfl rfl rfl (by with_reducible exact nI_add _ _) rfl ?_ | refine wp_iinc5 (w := nI 1) (pc' := 104) rfl rfl rfl rfl rfl ?_
            refine wp_goto rfl ?_
            exact WP.cg (ih (i + 1) _ (by omega) (by first | rfl | assumption)) (lC1 (lI1 (by first | with_reducible rfl | (rw [hs]; simp only [evenS, v1_0, v1_1, v1_2, v1_3, v1_4, v1_5, v1_6, v1_7, v1_8, v1_9, v1_10, v1_11, h77, h81, ↓reduceIte, and_self, and_true, true_and, and_false, false_and]; done) | (rw [hs]; simp only [evenS, v1_0, v1_1, v1_2, v1_3, v1_4, v1_5, v1_6, v1_7, v1_8, v1_9, v1_10, v1_11, h77, ↓reduceIte, and_self, and_true, true_and, and_false, false_and]; done)) (lI1 (by first | with_reducible rfl | (rw [hs]; simp only [evenS, v1_0, v1_1, v1_2, v1_3, v1_4, v1_5, v1_6, v1_7, v1_8, v1_9, v1_10, v1_11, h77, h81, ↓reduceIte, and_self, and_true, true_and, and_false, false_and]; done) | (rw [hs]; simp only [evenS, v1_0, v1_1, v1_2, v1_3, v1_4, v1_5, v1_6, v1_7, v1_8, v1_9, v1_10, v1_11, h77, ↓reduceIte, and_self, and_true, true_and, and_false, false_and]; done)) (lI1 (by first | with_reducible rfl | (rw [hs]; simp only [evenS, v1_0, v1_1, v1_2, v1_3, v1_4, v1_5, v1_6, v1_7, v1_8, v1_9, v1_10, v1_11, h77, h81, ↓reduceIte, and_self, and_true, true_and, and_false, false_and]; done) | (rw [hs]; simp only [evenS, v1_0, v1_1, v1_2, v1_3, v1_4, v1_5, v1_6, v1_7, v1_8, v1_9, v1_10, v1_11, h77, ↓reduceIte, and_self, and_true, true_and, and_false, false_and]; done)) (lI1 (by first | with_reducible rfl | (rw [hs]; simp only [evenS, v1_0, v1_1, v1_2, v1_3, v1_4, v1_5, v1_6, v1_7, v1_8, v1_9, v1_10, v1_11, h77, h81, ↓reduceIte, and_self, and_true, true_and, and_false, false_and]; done) | (rw [hs]; simp only [evenS, v1_0, v1_1, v1_2, v1_3, v1_4, v1_5, v1_6, v1_7, v1_8, v1_9, v1_10, v1_11, h77, ↓reduceIte, and_self, and_true, true_and, and_false, false_and]; done)) (lI1 (by first | with_reducible rfl | (rw [hs]; simp only [evenS, v1_0, v1_1, v1_2, v1_3, v1_4, v1_5, v1_6, v1_7, v1_8, v1_9, v1_10, v1_11, h77, h81, ↓reduceIte, and_self, and_true, true_and, and_false, false_and]; done) | (rw [hs]; simp only [evenS, v1_0, v1_1, v1_2, v1_3, v1_4, v1_5, v1_6, v1_7, v1_8, v1_9, v1_10, v1_11, h77, ↓reduceIte, and_self, and_true, true_and, and_false, false_and]; done)) (lC1 rfl))))))) rfl (by first | with_reducible rfl | (simp only [forN, *, ↓reduceIte, not_true_eq_false, not_false_eq_true, and_self, and_true, true_and, and_false, false_and]; done) | rfl | (simp_all [forN]; done))
          · intro h81
            first | refine wp_iinc3 (w := (-1)) (pc' := 87) rfl rfl rfl (by with_reducible exact nI_sub1 (by omega)) rfl ?_ | refine wp_iinc3 (w := (-1)) (pc' := 87) rfl rfl rfl rfl rfl ?_
            first | refine wp_iinc6 (w := (-1)) (pc' := 90) rfl rfl rfl (by with_reducible exact nI_sub1 (by omega)) rfl ?_ | refine wp_iinc6 (w := (-1)) (pc' := 90) rfl rfl rfl rfl rfl ?_
            refine wp_iload4 (pc' := 92) rfl rfl ?_
            refine wp_iload6 (pc' := 94) rfl rfl ?_
            refine wp_iconst (v := nI 0) (pc' := 95) rfl rfl rfl ?_
            refine wp_max (pc' := 98) rfl rfl rfl rfl ?_
            first | refine wp_iaddN (pc' := 99) rfl (by with_reducible rfl) (by with_reducible rfl) rfl ?_ | refine wp_iadd (pc' := 99) rfl rfl ?_
            refine wp_istore4 (pc' := 101) rfl (by first | rfl | assumption) rfl ?_
            first | refine wp_iinc5 (w := nI 1) (pc' := 104) rfl rfl rfl (by with_reducible exact nI_add _ _) rfl ?_ | refine wp_iinc5 (w := nI 1) (pc' := 104) rfl rfl rfl rfl rfl ?_
            refine wp_goto rfl ?_
            exact WP.cg (ih (i + 1) _ (by omega) (by first | rfl | assumption)) (lC1 (lI1 (by first | with_reducible rfl | (rw [hs]; simp only [evenS, v1_0, v1_1, v1_2, v1_3, v1_4, v1_5, v1_6, v1_7, v1_8, v1_9, v1_10, v1_11, h77, h81, ↓reduceIte, and_self, and_true, true_and, and_false, false_and]; done) | (rw [hs]; simp only [evenS, v1_0, v1_1, v1_2, v1_3, v1_4, v1_5, v1_6, v1_7, v1_8, v1_9, v1_10, v1_11, h77, ↓reduceIte, and_self, and_true, true_and, and_false, false_and]; done)) (lI1 (by first | with_reducible rfl | (rw [hs]; simp only [evenS, v1_0, v1_1, v1_2, v1_3, v1_4, v1_5, v1_6, v1_7, v1_8, v1_9, v1_10, v1_11, h77, h81, ↓reduceIte, and_self, and_true, true_and, and_false, false_and]; done) | (rw [hs]; simp only [evenS, v1_0, v1_1, v1_2, v1_3, v1_4, v1_5, v1_6, v1_7, v1_8, v1_9, v1_10, v1_11, h77, ↓reduceIte, and_self, and_true, true_and, and_false, false_and]; done)) (lI1 (by first | with_reducible rfl | (rw [hs]; simp only [evenS, v1_0, v1_1, v1_2, v1_3, v1_4, v1_5, v1_6, v1_7, v1_8, v1_9, v1_10, v1_11, h77, h81, ↓reduceIte, and_self, and_true, true_and, and_false, false_and]; done) | (rw [hs]; simp only [evenS, v1_0, v1_1, v1_2, v1_3, v1_4, v1_5, v1_6, v1_7, v1_8, v1_9, v1_10, v1_11, h77, ↓reduceIte, and_self, and_true, true_and, and_false, false_and]; done)) (lI1 (by first | with_reducible rfl | (rw [hs]; simp only [evenS, v1_0, v1_1, v1_2, v1_3, v1_4, v1_5, v1_6, v1_7, v1_8, v1_9, v1_10, v1_11, h77, h81, ↓reduceIte, and_self, and_true, true_and, and_false, false_and]; done) | (rw [hs]; simp only [evenS, v1_0, v1_1, v1_2, v1_3, v1_4, v1_5, v1_6, v1_7, v1_8, v1_9, v1_10, v1_11, h77, ↓reduceIte, and_self, and_true, true_and, and_false, false_and]; done)) (lI1 (by first | with_reducible rfl | (rw [hs]; simp only [evenS, v1_0, v1_1, v1_2, v1_3, v1_4, v1_5, v1_6, v1_7, v1_8, v1_9, v1_10, v1_11, h77, h81, ↓reduceIte, and_self, and_true, true_and, and_false, false_and]; done) | (rw [hs]; simp only [evenS, v1_0, v1_1, v1_2, v1_3, v1_4, v1_5, v1_6, v1_7, v1_8, v1_9, v1_10, v1_11, h77, ↓reduceIte, and_self, and_true, true_and, and_false, false_and]; done)) (lC1 rfl))))))) rfl (by first | with_reducible rfl | (simp only [forN, *, ↓reduceIte, not_true_eq_false, not_false_eq_true, and_self, and_true, true_and, and_false, false_and]; done) | rfl | (simp_all [forN]; done))
    exact WP.cg (lp49 (H - (0)) (0) _ (by omega) (by first | rfl | assumption)) (lC1 (lI1 (by first | with_reducible rfl | (simp only [forN, *, ↓reduceIte, not_true_eq_false, not_false_eq_true, and_self, and_true, true_and, and_false, false_and]; done) | rfl | (simp_all [forN]; done)) (lI1 (by first | with_reducible rfl | (simp only [forN, *, ↓reduceIte, not_true_eq_false, not_false_eq_true, and_self, and_true, true_and, and_false, false_and]; done) | rfl | (simp_all [forN]; done)) (lI1 (by first | with_reducible rfl | (simp only [forN, *, ↓reduceIte, not_true_eq_false, not_false_eq_true, and_self, and_true, true_and, and_false, false_and]; done) | rfl | (simp_all [forN]; done)) (lI1 (by first | with_reducible rfl | (simp only [forN, *, ↓reduceIte, not_true_eq_false, not_false_eq_true, and_self, and_true, true_and, and_false, false_and]; done) | rfl | (simp_all [forN]; done)) (lI1 (by first | with_reducible rfl | (simp only [forN, *, ↓reduceIte, not_true_eq_false, not_false_eq_true, and_self, and_true, true_and, and_false, false_and]; done) | rfl | (simp_all [forN]; done)) (lC1 rfl))))))) rfl (by first | with_reducible rfl | (simp only [forN, *, ↓reduceIte, not_true_eq_false, not_false_eq_true, and_self, and_true, true_and, and_false, false_and]; done) | rfl | (simp_all [forN]; done))
  · intro h7
    refine wp_iconst (v := nI 0) (pc' := 11) rfl rfl rfl ?_
    refine wp_iret rfl rfl rfl ?_
    exact Qv kk (by unfold evenC; rw [if_pos ((nI_eq (by omega) (by decide)).mp (hH ▸ h7))]) rfl
theorem c_share {d : Nat} {K : Nat → Nat × Nat} {I : Nat → Nat → Int32} {L : Nat → Nat → Int64} {R : Nat → Nat → Option Nat} {n s : Nat} {Q : Lo → Lm → Prop} {h : Nat} (hT : TK K R n) (hh : h < 6) (kk : Q (.inl (some (.int (shareS (vw 1 I) h)))) (K, I, L, R, n, s)) : Ok (d + 2) 120 [.ref 0, .int (nI h)] (K, I, L, R, n, s) Q := by
  have hb := TK.s1 hT
  obtain ⟨-, -, hn⟩ := id hT
  refine Ok.enter (F := F_120) (ls := [.ref 0, .int (nI h), lDead]) rfl rfl ?_
  refine wp_aload0 (pc' := 1) rfl rfl ?_
  refine wp_getRF (pc' := 4) rfl rfl (by first | exact TK.k1 hT rfl | exact TK.kk hT rfl | exact TK.r hT rfl | assumption) (by first | exact TK.k1 hT rfl | exact TK.kk hT rfl | exact TK.r hT rfl | assumption) rfl ?_
  refine wp_getRF (pc' := 7) rfl rfl (by first | exact TK.k1 hT rfl | exact TK.kk hT rfl | exact TK.r hT rfl | assumption) (by first | exact TK.k1 hT rfl | exact TK.kk hT rfl | exact TK.r hT rfl | assumption) rfl ?_
  refine wp_callS1 (pc' := 10) rfl rfl rfl rfl rfl rfl ?_
  refine c_sum (by first | exact TK.k1 hT rfl | exact TK.kk hT rfl | exact TK.r hT rfl | assumption) (by decide) ?_
  refine Cont.v ?_
  refine wp_istore2 (pc' := 11) rfl (by first | rfl | assumption) rfl ?_
  refine wp_iload2 (pc' := 12) rfl rfl ?_
  refine wp_ifle (pc' := 15) rfl rfl ?_ ?_
  · intro h12
    refine wp_iconst (v := nI 0) (pc' := 33) rfl rfl rfl ?_
    refine wp_iret rfl rfl rfl ?_
    exact Qv kk (by first | rfl | (simp +decide only [shareS, v1_0, v1_1, v1_2, v1_3, v1_4, v1_5, v1_6, v1_7, v1_8, v1_9, v1_10, v1_11, *, ↓reduceIte, and_self, and_true, true_and, and_false, false_and, not_true_eq_false, not_false_eq_true]; done) | (simp_all [shareS, v1_0, v1_1, v1_2, v1_3, v1_4, v1_5, v1_6, v1_7, v1_8, v1_9, v1_10, v1_11]; done)) rfl
  · intro h12
    refine wp_bipush (v := nI 100) (pc' := 17) rfl rfl rfl ?_
    refine wp_aload0 (pc' := 18) rfl rfl ?_
    refine wp_getRF (pc' := 21) rfl rfl (by first | exact TK.k1 hT rfl | exact TK.kk hT rfl | exact TK.r hT rfl | assumption) (by first | exact TK.k1 hT rfl | exact TK.kk hT rfl | exact TK.r hT rfl | assumption) rfl ?_
    refine wp_getRF (pc' := 24) rfl rfl (by first | exact TK.k1 hT rfl | exact TK.kk hT rfl | exact TK.r hT rfl | assumption) (by first | exact TK.k1 hT rfl | exact TK.kk hT rfl | exact TK.r hT rfl | assumption) rfl ?_
    refine wp_iload1 (pc' := 25) rfl rfl ?_
    refine wp_iald _ (pc' := 26) rfl (by first | exact TK.k1 hT rfl | exact TK.kk hT rfl | exact TK.r hT rfl | assumption) (by with_reducible rfl) (by omega) (by first | decide | assumption | omega) rfl ?_
    first | refine wp_imulN (pc' := 27) rfl (by with_reducible rfl) (by with_reducible rfl) rfl ?_ | refine wp_imul (pc' := 27) rfl rfl ?_
    refine wp_iload2 (pc' := 28) rfl rfl ?_
    first | refine wp_idivN (pc' := 29) rfl (by with_reducible rfl) (by with_reducible rfl) (by omega) (by omega) (by omega) rfl ?_ | refine wp_idiv (pc' := 29) rfl (pos_ne h12) rfl ?_
    refine wp_goto rfl ?_
    refine wp_iret rfl rfl rfl ?_
    exact Qv kk (by first | rfl | (simp +decide only [shareS, v1_0, v1_1, v1_2, v1_3, v1_4, v1_5, v1_6, v1_7, v1_8, v1_9, v1_10, v1_11, *, ↓reduceIte, and_self, and_true, true_and, and_false, false_and, not_true_eq_false, not_false_eq_true]; done) | (simp_all [shareS, v1_0, v1_1, v1_2, v1_3, v1_4, v1_5, v1_6, v1_7, v1_8, v1_9, v1_10, v1_11]; done)) rfl
