/-! THE REFERENCE: readers that answer -/
theorem m_in1 {d : Nat} {K : Nat → Nat × Nat} {I : Mem} {L : Nat → Nat → Int64} {R : Nat → Nat → Option Nat} {n s : Nat} {Q : Lo → Lm → Prop} {x y z : Int32} (h1 : ¬ x < y) (h2 : ¬ z < x) (kk : Q (.inl (some (.int (nI 1)))) (K, I, L, R, n, s)) : Ok (d + 1) 257 [.int x, .int y, .int z] (K, I, L, R, n, s) Q := m_in (by rw [if_pos ⟨h1, h2⟩]; exact kk)
theorem m_in0 {d : Nat} {K : Nat → Nat × Nat} {I : Mem} {L : Nat → Nat → Int64} {R : Nat → Nat → Option Nat} {n s : Nat} {Q : Lo → Lm → Prop} {x y z : Int32} (h1 : ¬ (¬ x < y ∧ ¬ z < x)) (kk : Q (.inl (some (.int (nI 0)))) (K, I, L, R, n, s)) : Ok (d + 1) 257 [.int x, .int y, .int z] (K, I, L, R, n, s) Q := m_in (by rw [if_neg h1]; exact kk)
theorem m_noCell1 {d : Nat} {K : Nat → Nat × Nat} {I : Mem} {L : Nat → Nat → Int64} {R : Nat → Nat → Option Nat} {n s : Nat} {Q : Lo → Lm → Prop} {c : Nat} (hc : c < 25) (kk : Q (.inl (some (.int (nI 0)))) (K, I, L, R, n, s)) : Ok (d + 2) 256 [.int (nI c)] (K, I, L, R, n, s) Q := m_noCell (by rw [bNI_t ⟨c, hc, rfl⟩]; exact kk)
theorem m_noCell0 {d : Nat} {K : Nat → Nat × Nat} {I : Mem} {L : Nat → Nat → Int64} {R : Nat → Nat → Option Nat} {n s : Nat} {Q : Lo → Lm → Prop} {x : Int32} (h : ¬ InR x 25) (kk : Q (.inl (some (.int (nI 1)))) (K, I, L, R, n, s)) : Ok (d + 2) 256 [.int x] (K, I, L, R, n, s) Q := m_noCell (by rw [bNI_f h]; exact kk)
theorem m_noDays1 {d : Nat} {K : Nat → Nat × Nat} {I : Mem} {L : Nat → Nat → Int64} {R : Nat → Nat → Option Nat} {n s : Nat} {Q : Lo → Lm → Prop} {c : Nat} (hc : c ≤ 60) (kk : Q (.inl (some (.int (nI 0)))) (K, I, L, R, n, s)) : Ok (d + 2) 360 [.int (nI c)] (K, I, L, R, n, s) Q := m_noDays (by rw [bNI_t ⟨c, by omega, rfl⟩]; exact kk)
theorem m_noDays0 {d : Nat} {K : Nat → Nat × Nat} {I : Mem} {L : Nat → Nat → Int64} {R : Nat → Nat → Option Nat} {n s : Nat} {Q : Lo → Lm → Prop} {x : Int32} (h : ¬ InR x 61) (kk : Q (.inl (some (.int (nI 1)))) (K, I, L, R, n, s)) : Ok (d + 2) 360 [.int x] (K, I, L, R, n, s) Q := m_noDays (by rw [bNI_f h]; exact kk)
theorem m_noH1 {d : Nat} {K : Nat → Nat × Nat} {I : Mem} {L : Nat → Nat → Int64} {R : Nat → Nat → Option Nat} {n s : Nat} {Q : Lo → Lm → Prop} {h H : Nat} (hT : TK K R n) (hw : I 319 0 = nI H) (hH6 : H ≤ 6) (hh : h < H) (kk : Q (.inl (some (.int (nI 0)))) (K, I, L, R, n, s)) : Ok (d + 2) 287 [.ref 318, .int (nI h)] (K, I, L, R, n, s) Q := m_noHearth hT hw hH6 (by rw [bNI_t ⟨h, hh, rfl⟩]; exact kk)
theorem m_noH0 {d : Nat} {K : Nat → Nat × Nat} {I : Mem} {L : Nat → Nat → Int64} {R : Nat → Nat → Option Nat} {n s : Nat} {Q : Lo → Lm → Prop} {x : Int32} {H : Nat} (hT : TK K R n) (hw : I 319 0 = nI H) (hH6 : H ≤ 6) (h : ¬ InR x H) (kk : Q (.inl (some (.int (nI 1)))) (K, I, L, R, n, s)) : Ok (d + 2) 287 [.ref 318, .int x] (K, I, L, R, n, s) Q := m_noHearth hT hw hH6 (by rw [bNI_f h]; exact kk)
theorem m_tfN {d : Nat} {K : Nat → Nat × Nat} {I : Mem} {L : Nat → Nat → Int64} {R : Nat → Nat → Option Nat} {n s : Nat} {Q : Lo → Lm → Prop} {k : Int32} (hT : TK K R n) (kk : Q (.inl (some (.int (nI 0)))) (K, I, L, R, n, s)) : Ok (d + 1) 253 [.ref 318, .int (nI 0), .int k] (K, I, L, R, n, s) Q := m_tf0 (p := False) hT (fun _ => kk) (fun h => h.elim)
theorem m_tfY {d : Nat} {K : Nat → Nat × Nat} {I : Mem} {L : Nat → Nat → Int64} {R : Nat → Nat → Option Nat} {n s : Nat} {Q : Lo → Lm → Prop} {k : Int32} (hT : TK K R n) (kk : Q (.inl (some (.int (nI 1)))) (K, up2 I 318 0 k, L, R, n, s)) : Ok (d + 1) 253 [.ref 318, .int (nI 1), .int k] (K, I, L, R, n, s) Q := m_tf0 (p := True) hT (fun h => (h trivial).elim) (fun _ => kk)
theorem dec24 : ∀ i : Fin 25, nI (24 - i.1) + (-1) = nI 24 - nI (i.1 + 1) := by decide +kernel
theorem up318 {I : Mem} {u v : Int32} : up2 (up2 I 318 0 u) 318 0 v = up2 I 318 0 v := up2_up2
def twnI (S : Mem) (a : Nat) (x : Int32) (k : Nat) : Int32 := forN (fun j x => x + (if S 6 a = S 6 j ∧ S 7 a = S 7 j then nI 1 else nI 0)) x k
def twnS (S : Mem) (i : Nat) : Int32 := forN (fun a x => twnI S a x a) (nI 0) i
def wasF (S : Mem) (H : Nat) (p : Int32) (i : Nat) : Int32 := forN (fun c x => x &&& (if ownS S c H = nI 0 then -1 else jshl (nI 1) (nI c) ^^^ (-1))) p i
def stgS (S : Mem) (x : Int32) (i : Nat) : Int32 := forN (fun c a => a + (if S 5 c = x then S 3 c else nI 0)) (nI 0) i
def heaC (S : Mem) (x : Int32) (i : Nat) : Int32 := forN (fun c f => f ^^^ (if hasP x c then jrem (S 1 c) (nI 4) else nI 0)) (nI 0) i

theorem m_fault {d : Nat} {K : Nat → Nat × Nat} {I : Nat → Nat → Int32} {L : Nat → Nat → Int64} {R : Nat → Nat → Option Nat} {n s : Nat} {Q : Lo → Lm → Prop}  (hT : TK K R n) (kk : Q (.inl (some (.int (I 318 14)))) (K, up2 I 318 0 (nI 0), L, R, n, s)) : Ok (d + 1) 218 [.ref 318] (K, I, L, R, n, s) Q := by
  obtain ⟨-, -, hn⟩ := id hT
  refine Ok.enter (F := F_218) (ls := [.ref 318]) rfl rfl ?_
  refine wp_aload0 (pc' := 1) rfl rfl ?_
  refine wp_iconst (v := nI 0) (pc' := 2) rfl rfl rfl ?_
  refine wp_putI (pc' := 5) rfl rfl (by first | exact TK.k1 hT rfl | exact TK.kk hT rfl | exact TK.r hT rfl | assumption) (by omega) rfl ?_
  obtain ⟨M, hM⟩ : ∃ M, M = up2 I 318 0 (nI 0) := ⟨_, rfl⟩
  have hM9 : M 319 = I 319 := by rw [hM]; exact up2_row (by decide)
  rw [← hM] at kk ⊢
  try rw [← hM9] at kk
  refine wp_aload0 (pc' := 6) rfl rfl ?_
  refine wp_getI (pc' := 9) rfl rfl (by first | exact TK.k1 hT rfl | exact TK.kk hT rfl | exact TK.r hT rfl | assumption) rfl ?_
  rw [show M 318 14 = I 318 14 by rw [hM, up2_same, if_neg (by decide)]]
  refine wp_iret rfl rfl rfl ?_
  exact kk
theorem m_drained {d : Nat} {K : Nat → Nat × Nat} {I : Nat → Nat → Int32} {L : Nat → Nat → Int64} {R : Nat → Nat → Option Nat} {n s : Nat} {Q : Lo → Lm → Prop}  (hT : TK K R n) (kk : Q (.inl (some (.int (alW (I 319))))) (K, up2 I 318 0 (nI 0), L, R, n, s)) : Ok (d + 5) 305 [.ref 318] (K, I, L, R, n, s) Q := by
  obtain ⟨-, -, hn⟩ := id hT
  refine Ok.enter (F := F_305) (ls := [.ref 318]) rfl rfl ?_
  refine wp_aload0 (pc' := 1) rfl rfl ?_
  refine wp_iconst (v := nI 0) (pc' := 2) rfl rfl rfl ?_
  refine wp_putI (pc' := 5) rfl rfl (by first | exact TK.k1 hT rfl | exact TK.kk hT rfl | exact TK.r hT rfl | assumption) (by omega) rfl ?_
  obtain ⟨M, hM⟩ : ∃ M, M = up2 I 318 0 (nI 0) := ⟨_, rfl⟩
  have hM9 : M 319 = I 319 := by rw [hM]; exact up2_row (by decide)
  rw [← hM] at kk ⊢
  try rw [← hM9] at kk
  refine wp_aload0 (pc' := 6) rfl rfl ?_
  refine wp_callV1 (pc' := 9) rfl rfl rfl rfl rfl (by first | exact TK.k1 hT rfl | exact TK.kk hT rfl | exact TK.r hT rfl | assumption) rfl rfl ?_
  refine m_allDrained hT ?_
  refine Cont.v ?_
  refine wp_iret rfl rfl rfl ?_
  exact kk
theorem m_open {d : Nat} {K : Nat → Nat × Nat} {I : Nat → Nat → Int32} {L : Nat → Nat → Int64} {R : Nat → Nat → Option Nat} {n s : Nat} {Q : Lo → Lm → Prop}  (hT : TK K R n) (kk : Q (.inl (some (.int (openS (Sv (I 319)))))) (K, up2 I 318 0 (nI 0), L, R, n, s)) : Ok (d + 5) 306 [.ref 318] (K, I, L, R, n, s) Q := by
  obtain ⟨-, -, hn⟩ := id hT
  refine Ok.enter (F := F_306) (ls := [.ref 318]) rfl rfl ?_
  refine wp_aload0 (pc' := 1) rfl rfl ?_
  refine wp_iconst (v := nI 0) (pc' := 2) rfl rfl rfl ?_
  refine wp_putI (pc' := 5) rfl rfl (by first | exact TK.k1 hT rfl | exact TK.kk hT rfl | exact TK.r hT rfl | assumption) (by omega) rfl ?_
  obtain ⟨M, hM⟩ : ∃ M, M = up2 I 318 0 (nI 0) := ⟨_, rfl⟩
  have hM9 : M 319 = I 319 := by rw [hM]; exact up2_row (by decide)
  rw [← hM] at kk ⊢
  try rw [← hM9] at kk
  refine wp_aload0 (pc' := 6) rfl rfl ?_
  refine wp_callV1 (pc' := 9) rfl rfl rfl rfl rfl (by first | exact TK.k1 hT rfl | exact TK.kk hT rfl | exact TK.r hT rfl | assumption) rfl rfl ?_
  refine m_allOpen hT ?_
  refine Cont.v ?_
  refine wp_iret rfl rfl rfl ?_
  exact kk
theorem m_mostBy {d : Nat} {K : Nat → Nat × Nat} {I : Nat → Nat → Int32} {L : Nat → Nat → Int64} {R : Nat → Nat → Option Nat} {n s : Nat} {Q : Lo → Lm → Prop} {k : Nat} (hT : TK K R n) (hk : k < 6) (kk : Q (.inl (some (.int (nI (mostN (fun c => I 319 (9 + 6 * c + k)) 25))))) (K, I, L, R, n, s)) : Ok (d + 3) 352 [.ref 318, .int (nI k)] (K, I, L, R, n, s) Q := by
  obtain ⟨-, -, hn⟩ := id hT
  refine Ok.enter (F := F_352) (ls := [.ref 318, .int (nI k), lDead, lDead]) rfl rfl ?_
  refine wp_iconst (v := nI 0) (pc' := 1) rfl rfl rfl ?_
  refine wp_istore2 (pc' := 2) rfl (by first | rfl | assumption) rfl ?_
  refine wp_iconst (v := nI 1) (pc' := 3) rfl rfl rfl ?_
  refine wp_istore3 (pc' := 4) rfl (by first | rfl | assumption) rfl ?_
  have lp4 : ∀ r (i : Nat), i + r = 25 → 0 < i → WP (d + 2) F_352 4 [.ref 318, .int (nI k), .int (nI (mostN (fun c => I 319 (9 + 6 * c + k)) i)), .int (nI i)] [] (K, I, L, R, n, s) Q := by
    intro r; induction r with
    | zero =>
      intro i hi hv0
      have hi2 : i = 25 := by omega
      subst hi2
      refine wp_iload3 (pc' := 5) rfl rfl ?_
      refine wp_bipush (v := nI 25) (pc' := 7) rfl rfl rfl ?_
      refine wp_icmpgeT rfl (nI_nlt (by omega) (by omega)) ?_
      refine wp_iload2 (pc' := 38) rfl rfl ?_
      refine wp_iret rfl rfl rfl ?_
      exact kk
    | succ r ih =>
      intro i hi hv0
      have hlt : i < 25 := by omega
      have hm := mostN_lt (fun c => I 319 (9 + 6 * c + k)) i hv0
      refine wp_iload3 (pc' := 5) rfl rfl ?_
      refine wp_bipush (v := nI 25) (pc' := 7) rfl rfl rfl ?_
      refine wp_icmpgeF (pc' := 10) rfl (nI_lt (by omega) (by omega)) rfl ?_
      refine wp_aload0 (pc' := 11) rfl rfl ?_
      refine wp_iload3 (pc' := 12) rfl rfl ?_
      refine wp_iload1 (pc' := 13) rfl rfl ?_
      refine wp_callV3 (pc' := 16) rfl rfl rfl rfl rfl (by first | exact TK.k1 hT rfl | exact TK.kk hT rfl | exact TK.r hT rfl | assumption) rfl rfl ?_
      refine m_of hT (by omega) hk ?_
      refine Cont.v ?_
      refine wp_aload0 (pc' := 17) rfl rfl ?_
      refine wp_iload2 (pc' := 18) rfl rfl ?_
      refine wp_iload1 (pc' := 19) rfl rfl ?_
      refine wp_callV3 (pc' := 22) rfl rfl rfl rfl rfl (by first | exact TK.k1 hT rfl | exact TK.kk hT rfl | exact TK.r hT rfl | assumption) rfl rfl ?_
      refine m_of hT (by omega) hk ?_
      refine Cont.v ?_
      refine wp_icmple (pc' := 25) rfl rfl ?_ ?_
      · intro h22
        refine wp_iload2 (pc' := 30) rfl rfl ?_
        refine wp_istore2 (pc' := 31) rfl (by first | rfl | assumption) rfl ?_
        first | refine wp_iinc3 (w := nI 1) (pc' := 34) rfl rfl rfl (by with_reducible exact nI_add _ _) rfl ?_ | refine wp_iinc3 (w := nI 1) (pc' := 34) rfl rfl rfl rfl rfl ?_
        refine wp_goto rfl ?_
        exact WP.cg (ih (i + 1) (by omega) (by omega)) (lC1 (lI1 (by first | with_reducible rfl | (simp only [mostN, h22, ↓reduceIte]; done)) (lI1 (by first | with_reducible rfl | (simp only [mostN, h22, ↓reduceIte]; done)) (lI1 (by first | with_reducible rfl | (simp only [mostN, h22, ↓reduceIte]; done)) rfl)))) rfl (by first | with_reducible rfl | (simp only [forN, *, ↓reduceIte, not_true_eq_false, not_false_eq_true, and_self, and_true, true_and, and_false, false_and]; done) | rfl | (simp_all [forN]; done))
      · intro h22
        refine wp_iload3 (pc' := 26) rfl rfl ?_
        refine wp_goto rfl ?_
        refine wp_istore2 (pc' := 31) rfl (by first | rfl | assumption) rfl ?_
        first | refine wp_iinc3 (w := nI 1) (pc' := 34) rfl rfl rfl (by with_reducible exact nI_add _ _) rfl ?_ | refine wp_iinc3 (w := nI 1) (pc' := 34) rfl rfl rfl rfl rfl ?_
        refine wp_goto rfl ?_
        exact WP.cg (ih (i + 1) (by omega) (by omega)) (lC1 (lI1 (by first | with_reducible rfl | (simp only [mostN, h22, ↓reduceIte]; done)) (lI1 (by first | with_reducible rfl | (simp only [mostN, h22, ↓reduceIte]; done)) (lI1 (by first | with_reducible rfl | (simp only [mostN, h22, ↓reduceIte]; done)) rfl)))) rfl (by first | with_reducible rfl | (simp only [forN, *, ↓reduceIte, not_true_eq_false, not_false_eq_true, and_self, and_true, true_and, and_false, false_and]; done) | rfl | (simp_all [forN]; done))
  exact WP.cg (lp4 (25 - (1)) (1) (by omega) (by decide)) (lC1 (lI1 (by first | with_reducible rfl | (simp [mostN]; done)) (lI1 (by first | with_reducible rfl | (simp [mostN]; done)) (lI1 (by first | with_reducible rfl | (simp [mostN]; done)) rfl)))) rfl (by first | with_reducible rfl | (simp only [forN, *, ↓reduceIte, not_true_eq_false, not_false_eq_true, and_self, and_true, true_and, and_false, false_and]; done) | rfl | (simp_all [forN]; done))
theorem m_sumOfAll {d : Nat} {K : Nat → Nat × Nat} {I : Nat → Nat → Int32} {L : Nat → Nat → Int64} {R : Nat → Nat → Option Nat} {n s : Nat} {Q : Lo → Lm → Prop} {k : Nat} (hT : TK K R n) (hk : k < 6) (kk : Q (.inl (some (.int (sumN (fun c => I 319 (9 + 6 * c + k)) 25)))) (K, I, L, R, n, s)) : Ok (d + 3) 362 [.ref 318, .int (nI k)] (K, I, L, R, n, s) Q := by
  obtain ⟨-, -, hn⟩ := id hT
  refine Ok.enter (F := F_362) (ls := [.ref 318, .int (nI k), lDead, lDead]) rfl rfl ?_
  refine wp_iconst (v := nI 0) (pc' := 1) rfl rfl rfl ?_
  refine wp_istore2 (pc' := 2) rfl (by first | rfl | assumption) rfl ?_
  refine wp_iconst (v := nI 0) (pc' := 3) rfl rfl rfl ?_
  refine wp_istore3 (pc' := 4) rfl (by first | rfl | assumption) rfl ?_
  have lp4 : ∀ r (i : Nat), i + r = 25 → WP (d + 2) F_362 4 [.ref 318, .int (nI k), .int (sumN (fun c => I 319 (9 + 6 * c + k)) i), .int (nI i)] [] (K, I, L, R, n, s) Q := by
    intro r; induction r with
    | zero =>
      intro i hi 
      have hi2 : i = 25 := by omega
      subst hi2
      refine wp_iload3 (pc' := 5) rfl rfl ?_
      refine wp_bipush (v := nI 25) (pc' := 7) rfl rfl rfl ?_
      refine wp_icmpgeT rfl (nI_nlt (by omega) (by omega)) ?_
      refine wp_iload2 (pc' := 26) rfl rfl ?_
      refine wp_iret rfl rfl rfl ?_
      exact kk
    | succ r ih =>
      intro i hi 
      have hlt : i < 25 := by omega
      refine wp_iload3 (pc' := 5) rfl rfl ?_
      refine wp_bipush (v := nI 25) (pc' := 7) rfl rfl rfl ?_
      refine wp_icmpgeF (pc' := 10) rfl (nI_lt (by omega) (by omega)) rfl ?_
      refine wp_iload2 (pc' := 11) rfl rfl ?_
      refine wp_aload0 (pc' := 12) rfl rfl ?_
      refine wp_iload3 (pc' := 13) rfl rfl ?_
      refine wp_iload1 (pc' := 14) rfl rfl ?_
      refine wp_callV3 (pc' := 17) rfl rfl rfl rfl rfl (by first | exact TK.k1 hT rfl | exact TK.kk hT rfl | exact TK.r hT rfl | assumption) rfl rfl ?_
      refine m_of hT (by omega) hk ?_
      refine Cont.v ?_
      first | refine wp_iaddN (pc' := 18) rfl (by with_reducible rfl) (by with_reducible rfl) rfl ?_ | refine wp_iadd (pc' := 18) rfl rfl ?_
      refine wp_istore2 (pc' := 19) rfl (by first | rfl | assumption) rfl ?_
      first | refine wp_iinc3 (w := nI 1) (pc' := 22) rfl rfl rfl (by with_reducible exact nI_add _ _) rfl ?_ | refine wp_iinc3 (w := nI 1) (pc' := 22) rfl rfl rfl rfl rfl ?_
      refine wp_goto rfl ?_
      exact WP.cg (ih (i + 1) (by omega)) (lC1 (lI1 (by rfl) (lI1 (by rfl) (lI1 (by rfl) rfl)))) rfl (by first | with_reducible rfl | (simp only [forN, *, ↓reduceIte, not_true_eq_false, not_false_eq_true, and_self, and_true, true_and, and_false, false_and]; done) | rfl | (simp_all [forN]; done))
  exact WP.cg (lp4 (25 - (0)) (0) (by omega)) (lC1 (lI1 (by rfl) (lI1 (by rfl) (lI1 (by rfl) rfl)))) rfl (by first | with_reducible rfl | (simp only [forN, *, ↓reduceIte, not_true_eq_false, not_false_eq_true, and_self, and_true, true_and, and_false, false_and]; done) | rfl | (simp_all [forN]; done))
theorem m_deepest {d : Nat} {K : Nat → Nat × Nat} {I : Nat → Nat → Int32} {L : Nat → Nat → Int64} {R : Nat → Nat → Option Nat} {n s : Nat} {Q : Lo → Lm → Prop}  (hT : TK K R n) (kk : Q (.inl (some (.int (nI (mostN (fun c => I 319 (9 + 6 * c + 0)) 25))))) (K, up2 I 318 0 (nI 0), L, R, n, s)) : Ok (d + 4) 351 [.ref 318] (K, I, L, R, n, s) Q := by
  obtain ⟨-, -, hn⟩ := id hT
  refine Ok.enter (F := F_351) (ls := [.ref 318]) rfl rfl ?_
  refine wp_aload0 (pc' := 1) rfl rfl ?_
  refine wp_iconst (v := nI 0) (pc' := 2) rfl rfl rfl ?_
  refine wp_putI (pc' := 5) rfl rfl (by first | exact TK.k1 hT rfl | exact TK.kk hT rfl | exact TK.r hT rfl | assumption) (by omega) rfl ?_
  obtain ⟨M, hM⟩ : ∃ M, M = up2 I 318 0 (nI 0) := ⟨_, rfl⟩
  have hM9 : M 319 = I 319 := by rw [hM]; exact up2_row (by decide)
  rw [← hM] at kk ⊢
  try rw [← hM9] at kk
  refine wp_aload0 (pc' := 6) rfl rfl ?_
  refine wp_iconst (v := nI 0) (pc' := 7) rfl rfl rfl ?_
  refine wp_callV2 (pc' := 10) rfl rfl rfl rfl rfl (by first | exact TK.k1 hT rfl | exact TK.kk hT rfl | exact TK.r hT rfl | assumption) rfl rfl ?_
  refine m_mostBy hT (by decide) ?_
  refine Cont.v ?_
  refine wp_iret rfl rfl rfl ?_
  exact kk
theorem m_wettest {d : Nat} {K : Nat → Nat × Nat} {I : Nat → Nat → Int32} {L : Nat → Nat → Int64} {R : Nat → Nat → Option Nat} {n s : Nat} {Q : Lo → Lm → Prop}  (hT : TK K R n) (kk : Q (.inl (some (.int (nI (mostN (fun c => I 319 (9 + 6 * c + 1)) 25))))) (K, up2 I 318 0 (nI 0), L, R, n, s)) : Ok (d + 4) 353 [.ref 318] (K, I, L, R, n, s) Q := by
  obtain ⟨-, -, hn⟩ := id hT
  refine Ok.enter (F := F_353) (ls := [.ref 318]) rfl rfl ?_
  refine wp_aload0 (pc' := 1) rfl rfl ?_
  refine wp_iconst (v := nI 0) (pc' := 2) rfl rfl rfl ?_
  refine wp_putI (pc' := 5) rfl rfl (by first | exact TK.k1 hT rfl | exact TK.kk hT rfl | exact TK.r hT rfl | assumption) (by omega) rfl ?_
  obtain ⟨M, hM⟩ : ∃ M, M = up2 I 318 0 (nI 0) := ⟨_, rfl⟩
  have hM9 : M 319 = I 319 := by rw [hM]; exact up2_row (by decide)
  rw [← hM] at kk ⊢
  try rw [← hM9] at kk
  refine wp_aload0 (pc' := 6) rfl rfl ?_
  refine wp_iconst (v := nI 1) (pc' := 7) rfl rfl rfl ?_
  refine wp_callV2 (pc' := 10) rfl rfl rfl rfl rfl (by first | exact TK.k1 hT rfl | exact TK.kk hT rfl | exact TK.r hT rfl | assumption) rfl rfl ?_
  refine m_mostBy hT (by decide) ?_
  refine Cont.v ?_
  refine wp_iret rfl rfl rfl ?_
  exact kk
theorem m_cutsAt {d : Nat} {K : Nat → Nat × Nat} {I : Nat → Nat → Int32} {L : Nat → Nat → Int64} {R : Nat → Nat → Option Nat} {n s : Nat} {Q : Lo → Lm → Prop} {h : Nat} (hT : TK K R n) (hh : h < 6) (kk : Q (.inl (some (.int (fopS (Sv (I 319)) h)))) (K, I, L, R, n, s)) : Ok (d + 4) 281 [.ref 318, .int (nI h)] (K, I, L, R, n, s) Q := by
  obtain ⟨-, -, hn⟩ := id hT
  refine Ok.enter (F := F_281) (ls := [.ref 318, .int (nI h), lDead, lDead]) rfl rfl ?_
  refine wp_iconst (v := (-1)) (pc' := 1) rfl rfl rfl ?_
  refine wp_istore2 (pc' := 2) rfl (by first | rfl | assumption) rfl ?_
  refine wp_bipush (v := nI 24) (pc' := 4) rfl rfl rfl ?_
  refine wp_istore3 (pc' := 5) rfl (by first | rfl | assumption) rfl ?_
  have lp5 : ∀ r (i : Nat), i + r = 25 → WP (d + 3) F_281 5 [.ref 318, .int (nI h), .int (ffrom (fopP (Sv (I 319)) h) i (25 - i)), .int (nI 24 - nI i)] [] (K, I, L, R, n, s) Q := by
    intro r; induction r with
    | zero =>
      intro i hi 
      have hi2 : i = 25 := by omega
      subst hi2
      refine wp_iload3 (pc' := 6) rfl rfl ?_
      refine wp_ifltT rfl (by decide) ?_
      refine wp_iload2 (pc' := 43) rfl rfl ?_
      refine wp_iret rfl rfl rfl ?_
      exact kk
    | succ r ih =>
      intro i hi 
      have hlt : i < 25 := by omega
      rw [nI_sub (show i ≤ 24 by omega)]
      obtain ⟨c, hc⟩ : ∃ c, c = 24 - i := ⟨_, rfl⟩
      rw [← hc]
      have hs9 : Sv (I 319) 9 h = I 319 (159 + 4 * h + 3) := Sv_9 hh
      have hsx : ffrom (fopP (Sv (I 319)) h) (i + 1) (25 - (i + 1)) = if fopP (Sv (I 319)) h c then nI c else ffrom (fopP (Sv (I 319)) h) i (25 - i) := by
        rw [show 25 - (i + 1) = c by omega, ffrom, show c + 1 = 25 - i by omega]
      have hA : hasP (I 319 (159 + 4 * h + 3)) c → openQ (Sv (I 319)) c → ffrom (fopP (Sv (I 319)) h) (i + 1) (25 - (i + 1)) = nI c := fun u v => by rw [hsx, if_pos ⟨show hasP (Sv (I 319) 9 h) c by rw [hs9]; exact u, v⟩]
      have hB : ¬ openQ (Sv (I 319)) c → ffrom (fopP (Sv (I 319)) h) (i + 1) (25 - (i + 1)) = ffrom (fopP (Sv (I 319)) h) i (25 - i) := fun v => by rw [hsx, if_neg (fun q : fopP (Sv (I 319)) h c => v q.2)]
      have hC : ¬ hasP (I 319 (159 + 4 * h + 3)) c → ffrom (fopP (Sv (I 319)) h) (i + 1) (25 - (i + 1)) = ffrom (fopP (Sv (I 319)) h) i (25 - i) := fun v => by rw [hsx, if_neg (fun q : fopP (Sv (I 319)) h c => v (by rw [← hs9]; exact q.1))]
      have hD : nI c + (-1) = nI 24 - nI (i + 1) := by rw [hc]; exact dec24 ⟨i, by omega⟩
      refine wp_iload3 (pc' := 6) rfl rfl ?_
      refine wp_ifltF (pc' := 9) rfl (nI_pos (by omega)) rfl ?_
      refine wp_aload0 (pc' := 10) rfl rfl ?_
      refine wp_iload1 (pc' := 11) rfl rfl ?_
      refine wp_iconst (v := nI 3) (pc' := 12) rfl rfl rfl ?_
      refine wp_callV3 (pc' := 15) rfl rfl rfl rfl rfl (by first | exact TK.k1 hT rfl | exact TK.kk hT rfl | exact TK.r hT rfl | assumption) rfl rfl ?_
      refine m_ofH hT hh (by decide) ?_
      refine Cont.v ?_
      refine wp_iload3 (pc' := 16) rfl rfl ?_
      refine wp_callS2 (pc' := 19) rfl rfl rfl rfl rfl rfl ?_
      refine m_has ?_
      refine Cont.v ?_
      first | refine wp_ifeqB (pc' := 22) rfl rfl ?_ ?_ | refine wp_ifeq (pc' := 22) rfl rfl ?_ ?_
      · intro h19
        refine wp_iload2 (pc' := 35) rfl rfl ?_
        refine wp_istore2 (pc' := 36) rfl (by first | rfl | assumption) rfl ?_
        first | refine wp_iinc3 (w := (-1)) (pc' := 39) rfl rfl rfl (by with_reducible exact nI_sub1 (by omega)) rfl ?_ | refine wp_iinc3 (w := (-1)) (pc' := 39) rfl rfl rfl rfl rfl ?_
        refine wp_goto rfl ?_
        exact WP.cg (ih (i + 1) (by omega)) (lC1 (lI1 (by first | with_reducible rfl | with_reducible exact hD | with_reducible exact hD.symm | with_reducible exact hA h19 h27 | with_reducible exact (hA h19 h27).symm | with_reducible exact hB h27 | with_reducible exact (hB h27).symm | with_reducible exact hC h19 | with_reducible exact (hC h19).symm) (lI1 (by first | with_reducible rfl | with_reducible exact hD | with_reducible exact hD.symm | with_reducible exact hA h19 h27 | with_reducible exact (hA h19 h27).symm | with_reducible exact hB h27 | with_reducible exact (hB h27).symm | with_reducible exact hC h19 | with_reducible exact (hC h19).symm) (lI1 (by first | with_reducible rfl | with_reducible exact hD | with_reducible exact hD.symm | with_reducible exact hA h19 h27 | with_reducible exact (hA h19 h27).symm | with_reducible exact hB h27 | with_reducible exact (hB h27).symm | with_reducible exact hC h19 | with_reducible exact (hC h19).symm) rfl)))) rfl (by first | with_reducible rfl | (simp only [forN, *, ↓reduceIte, not_true_eq_false, not_false_eq_true, and_self, and_true, true_and, and_false, false_and]; done) | rfl | (simp_all [forN]; done))
      · intro h19
        refine wp_aload0 (pc' := 23) rfl rfl ?_
        refine wp_iload3 (pc' := 24) rfl rfl ?_
        refine wp_callV2 (pc' := 27) rfl rfl rfl rfl rfl (by first | exact TK.k1 hT rfl | exact TK.kk hT rfl | exact TK.r hT rfl | assumption) rfl rfl ?_
        refine m_isOpen hT (by omega) ?_
        refine Cont.v ?_
        first | refine wp_ifeqB (pc' := 30) rfl rfl ?_ ?_ | refine wp_ifeq (pc' := 30) rfl rfl ?_ ?_
        · intro h27
          refine wp_iload2 (pc' := 35) rfl rfl ?_
          refine wp_istore2 (pc' := 36) rfl (by first | rfl | assumption) rfl ?_
          first | refine wp_iinc3 (w := (-1)) (pc' := 39) rfl rfl rfl (by with_reducible exact nI_sub1 (by omega)) rfl ?_ | refine wp_iinc3 (w := (-1)) (pc' := 39) rfl rfl rfl rfl rfl ?_
          refine wp_goto rfl ?_
          exact WP.cg (ih (i + 1) (by omega)) (lC1 (lI1 (by first | with_reducible rfl | with_reducible exact hD | with_reducible exact hD.symm | with_reducible exact hA h19 h27 | with_reducible exact (hA h19 h27).symm | with_reducible exact hB h27 | with_reducible exact (hB h27).symm | with_reducible exact hC h19 | with_reducible exact (hC h19).symm) (lI1 (by first | with_reducible rfl | with_reducible exact hD | with_reducible exact hD.symm | with_reducible exact hA h19 h27 | with_reducible exact (hA h19 h27).symm | with_reducible exact hB h27 | with_reducible exact (hB h27).symm | with_reducible exact hC h19 | with_reducible exact (hC h19).symm) (lI1 (by first | with_reducible rfl | with_reducible exact hD | with_reducible exact hD.symm | with_reducible exact hA h19 h27 | with_reducible exact (hA h19 h27).symm | with_reducible exact hB h27 | with_reducible exact (hB h27).symm | with_reducible exact hC h19 | with_reducible exact (hC h19).symm) rfl)))) rfl (by first | with_reducible rfl | (simp only [forN, *, ↓reduceIte, not_true_eq_false, not_false_eq_true, and_self, and_true, true_and, and_false, false_and]; done) | rfl | (simp_all [forN]; done))
        · intro h27
          refine wp_iload3 (pc' := 31) rfl rfl ?_
          refine wp_goto rfl ?_
          refine wp_istore2 (pc' := 36) rfl (by first | rfl | assumption) rfl ?_
          first | refine wp_iinc3 (w := (-1)) (pc' := 39) rfl rfl rfl (by with_reducible exact nI_sub1 (by omega)) rfl ?_ | refine wp_iinc3 (w := (-1)) (pc' := 39) rfl rfl rfl rfl rfl ?_
          refine wp_goto rfl ?_
          exact WP.cg (ih (i + 1) (by omega)) (lC1 (lI1 (by first | with_reducible rfl | with_reducible exact hD | with_reducible exact hD.symm | with_reducible exact hA h19 h27 | with_reducible exact (hA h19 h27).symm | with_reducible exact hB h27 | with_reducible exact (hB h27).symm | with_reducible exact hC h19 | with_reducible exact (hC h19).symm) (lI1 (by first | with_reducible rfl | with_reducible exact hD | with_reducible exact hD.symm | with_reducible exact hA h19 h27 | with_reducible exact (hA h19 h27).symm | with_reducible exact hB h27 | with_reducible exact (hB h27).symm | with_reducible exact hC h19 | with_reducible exact (hC h19).symm) (lI1 (by first | with_reducible rfl | with_reducible exact hD | with_reducible exact hD.symm | with_reducible exact hA h19 h27 | with_reducible exact (hA h19 h27).symm | with_reducible exact hB h27 | with_reducible exact (hB h27).symm | with_reducible exact hC h19 | with_reducible exact (hC h19).symm) rfl)))) rfl (by first | with_reducible rfl | (simp only [forN, *, ↓reduceIte, not_true_eq_false, not_false_eq_true, and_self, and_true, true_and, and_false, false_and]; done) | rfl | (simp_all [forN]; done))
  exact WP.cg (lp5 (25 - (0)) (0) (by omega)) (lC1 (lI1 (by first | with_reducible rfl | rfl | decide) (lI1 (by first | with_reducible rfl | rfl | decide) (lI1 (by first | with_reducible rfl | rfl | decide) rfl)))) rfl (by first | with_reducible rfl | (simp only [forN, *, ↓reduceIte, not_true_eq_false, not_false_eq_true, and_self, and_true, true_and, and_false, false_and]; done) | rfl | (simp_all [forN]; done))
theorem m_cold {d : Nat} {K : Nat → Nat × Nat} {I : Nat → Nat → Int32} {L : Nat → Nat → Int64} {R : Nat → Nat → Option Nat} {n s : Nat} {Q : Lo → Lm → Prop} {H : Nat} (hT : TK K R n) (hw : I 319 0 = nI H) (hH6 : H ≤ 6) (kk : Q (.inl (some (.int (coldS (Sv (I 319)) H)))) (K, up2 I 318 0 (nI 0), L, R, n, s)) : Ok (d + 4) 355 [.ref 318] (K, I, L, R, n, s) Q := by
  obtain ⟨-, -, hn⟩ := id hT
  refine Ok.enter (F := F_355) (ls := [.ref 318, lDead, lDead]) rfl rfl ?_
  refine wp_aload0 (pc' := 1) rfl rfl ?_
  refine wp_iconst (v := nI 0) (pc' := 2) rfl rfl rfl ?_
  refine wp_putI (pc' := 5) rfl rfl (by first | exact TK.k1 hT rfl | exact TK.kk hT rfl | exact TK.r hT rfl | assumption) (by omega) rfl ?_
  obtain ⟨M, hM⟩ : ∃ M, M = up2 I 318 0 (nI 0) := ⟨_, rfl⟩
  have hM9 : M 319 = I 319 := by rw [hM]; exact up2_row (by decide)
  rw [← hM] at kk ⊢
  try rw [← hM9] at kk
  rw [← hM9] at hw
  refine wp_iconst (v := nI 0) (pc' := 6) rfl rfl rfl ?_
  refine wp_istore1 (pc' := 7) rfl (by first | rfl | assumption) rfl ?_
  refine wp_iconst (v := nI 0) (pc' := 8) rfl rfl rfl ?_
  refine wp_istore2 (pc' := 9) rfl (by first | rfl | assumption) rfl ?_
  have lp9 : ∀ r (i : Nat), i + r = H → WP (d + 3) F_355 9 [.ref 318, .int (coldS (Sv (M 319)) i), .int (nI i)] [] (K, M, L, R, n, s) Q := by
    intro r; induction r with
    | zero =>
      intro i hi 
      have hi2 : i = H := by omega
      subst hi2
      refine wp_iload2 (pc' := 10) rfl rfl ?_
      refine wp_aload0 (pc' := 11) rfl rfl ?_
      refine wp_callV1 (pc' := 14) rfl rfl rfl rfl rfl (by first | exact TK.k1 hT rfl | exact TK.kk hT rfl | exact TK.r hT rfl | assumption) rfl rfl ?_
      refine m_hearths hT hw ?_
      refine Cont.v ?_
      refine wp_icmpgeT rfl (nI_nlt (by omega) (by omega)) ?_
      refine wp_iload1 (pc' := 42) rfl rfl ?_
      refine wp_iret rfl rfl rfl ?_
      exact kk
    | succ r ih =>
      intro i hi 
      have hlt : i < H := by omega
      refine wp_iload2 (pc' := 10) rfl rfl ?_
      refine wp_aload0 (pc' := 11) rfl rfl ?_
      refine wp_callV1 (pc' := 14) rfl rfl rfl rfl rfl (by first | exact TK.k1 hT rfl | exact TK.kk hT rfl | exact TK.r hT rfl | assumption) rfl rfl ?_
      refine m_hearths hT hw ?_
      refine Cont.v ?_
      refine wp_icmpgeF (pc' := 17) rfl (nI_lt (by omega) (by omega)) rfl ?_
      refine wp_iload1 (pc' := 18) rfl rfl ?_
      refine wp_aload0 (pc' := 19) rfl rfl ?_
      refine wp_iload2 (pc' := 20) rfl rfl ?_
      refine wp_callV2 (pc' := 23) rfl rfl rfl rfl rfl (by first | exact TK.k1 hT rfl | exact TK.kk hT rfl | exact TK.r hT rfl | assumption) rfl rfl ?_
      refine m_lacksOf hT (by omega) ?_
      refine Cont.v ?_
      refine wp_ifle (pc' := 26) rfl rfl ?_ ?_
      · intro h23
        refine wp_iconst (v := nI 0) (pc' := 33) rfl rfl rfl ?_
        refine wp_ior (pc' := 34) rfl rfl ?_
        refine wp_istore1 (pc' := 35) rfl (by first | rfl | assumption) rfl ?_
        first | refine wp_iinc2 (w := nI 1) (pc' := 38) rfl rfl rfl (by with_reducible exact nI_add _ _) rfl ?_ | refine wp_iinc2 (w := nI 1) (pc' := 38) rfl rfl rfl rfl rfl ?_
        refine wp_goto rfl ?_
        exact WP.cg (ih (i + 1) (by omega)) (lC1 (lI1 (by first | with_reducible rfl | (show _ = forN _ _ (i + 1); rw [forN, if_pos h23]; rfl) | (show _ = forN _ _ (i + 1); rw [forN, if_neg h23, or_n0]; rfl)) (lI1 (by first | with_reducible rfl | (show _ = forN _ _ (i + 1); rw [forN, if_pos h23]; rfl) | (show _ = forN _ _ (i + 1); rw [forN, if_neg h23, or_n0]; rfl)) rfl))) rfl (by first | with_reducible rfl | (simp only [forN, *, ↓reduceIte, not_true_eq_false, not_false_eq_true, and_self, and_true, true_and, and_false, false_and]; done) | rfl | (simp_all [forN]; done))
      · intro h23
        refine wp_iconst (v := nI 1) (pc' := 27) rfl rfl rfl ?_
        refine wp_iload2 (pc' := 28) rfl rfl ?_
        refine wp_ishl (pc' := 29) rfl rfl ?_
        refine wp_goto rfl ?_
        refine wp_ior (pc' := 34) rfl rfl ?_
        refine wp_istore1 (pc' := 35) rfl (by first | rfl | assumption) rfl ?_
        first | refine wp_iinc2 (w := nI 1) (pc' := 38) rfl rfl rfl (by with_reducible exact nI_add _ _) rfl ?_ | refine wp_iinc2 (w := nI 1) (pc' := 38) rfl rfl rfl rfl rfl ?_
        refine wp_goto rfl ?_
        exact WP.cg (ih (i + 1) (by omega)) (lC1 (lI1 (by first | with_reducible rfl | (show _ = forN _ _ (i + 1); rw [forN, if_pos h23]; rfl) | (show _ = forN _ _ (i + 1); rw [forN, if_neg h23, or_n0]; rfl)) (lI1 (by first | with_reducible rfl | (show _ = forN _ _ (i + 1); rw [forN, if_pos h23]; rfl) | (show _ = forN _ _ (i + 1); rw [forN, if_neg h23, or_n0]; rfl)) rfl))) rfl (by first | with_reducible rfl | (simp only [forN, *, ↓reduceIte, not_true_eq_false, not_false_eq_true, and_self, and_true, true_and, and_false, false_and]; done) | rfl | (simp_all [forN]; done))
  exact WP.cg (lp9 (H - (0)) (0) (by omega)) (lC1 (lI1 (by rfl) (lI1 (by rfl) rfl))) rfl (by first | with_reducible rfl | (simp only [forN, *, ↓reduceIte, not_true_eq_false, not_false_eq_true, and_self, and_true, true_and, and_false, false_and]; done) | rfl | (simp_all [forN]; done))
theorem m_twins {d : Nat} {K : Nat → Nat × Nat} {I : Nat → Nat → Int32} {L : Nat → Nat → Int64} {R : Nat → Nat → Option Nat} {n s : Nat} {Q : Lo → Lm → Prop} {H : Nat} (hT : TK K R n) (hw : I 319 0 = nI H) (hH6 : H ≤ 6) (kk : Q (.inl (some (.int (twnS (Sv (I 319)) H)))) (K, up2 I 318 0 (nI 0), L, R, n, s)) : Ok (d + 3) 356 [.ref 318] (K, I, L, R, n, s) Q := by
  obtain ⟨-, -, hn⟩ := id hT
  refine Ok.enter (F := F_356) (ls := [.ref 318, lDead, lDead, lDead]) rfl rfl ?_
  refine wp_aload0 (pc' := 1) rfl rfl ?_
  refine wp_iconst (v := nI 0) (pc' := 2) rfl rfl rfl ?_
  refine wp_putI (pc' := 5) rfl rfl (by first | exact TK.k1 hT rfl | exact TK.kk hT rfl | exact TK.r hT rfl | assumption) (by omega) rfl ?_
  obtain ⟨M, hM⟩ : ∃ M, M = up2 I 318 0 (nI 0) := ⟨_, rfl⟩
  have hM9 : M 319 = I 319 := by rw [hM]; exact up2_row (by decide)
  rw [← hM] at kk ⊢
  try rw [← hM9] at kk
  rw [← hM9] at hw
  refine wp_iconst (v := nI 0) (pc' := 6) rfl rfl rfl ?_
  refine wp_istore1 (pc' := 7) rfl (by first | rfl | assumption) rfl ?_
  refine wp_iconst (v := nI 0) (pc' := 8) rfl rfl rfl ?_
  refine wp_istore2 (pc' := 9) rfl (by first | rfl | assumption) rfl ?_
  have lp9 : ∀ r (i : Nat) (v3 : Value), i + r = H → isL v3 = false → WP (d + 2) F_356 9 [.ref 318, .int (twnS (Sv (M 319)) i), .int (nI i), v3] [] (K, M, L, R, n, s) Q := by
    intro r; induction r with
    | zero =>
      intro i v3 hi hv0
      have hi2 : i = H := by omega
      subst hi2
      refine wp_iload2 (pc' := 10) rfl rfl ?_
      refine wp_aload0 (pc' := 11) rfl rfl ?_
      refine wp_callV1 (pc' := 14) rfl rfl rfl rfl rfl (by first | exact TK.k1 hT rfl | exact TK.kk hT rfl | exact TK.r hT rfl | assumption) rfl rfl ?_
      refine m_hearths hT hw ?_
      refine Cont.v ?_
      refine wp_icmpgeT rfl (nI_nlt (by omega) (by omega)) ?_
      refine wp_iload1 (pc' := 75) rfl rfl ?_
      refine wp_iret rfl rfl rfl ?_
      exact kk
    | succ r ih =>
      intro i v3 hi hv0
      have hlt : i < H := by omega
      refine wp_iload2 (pc' := 10) rfl rfl ?_
      refine wp_aload0 (pc' := 11) rfl rfl ?_
      refine wp_callV1 (pc' := 14) rfl rfl rfl rfl rfl (by first | exact TK.k1 hT rfl | exact TK.kk hT rfl | exact TK.r hT rfl | assumption) rfl rfl ?_
      refine m_hearths hT hw ?_
      refine Cont.v ?_
      refine wp_icmpgeF (pc' := 17) rfl (nI_lt (by omega) (by omega)) rfl ?_
      refine wp_iconst (v := nI 0) (pc' := 18) rfl rfl rfl ?_
      refine wp_istore3 (pc' := 19) rfl (by first | rfl | assumption) rfl ?_
      have lp19 : ∀ rb (j : Nat), j + rb = i → WP (d + 2) F_356 19 [.ref 318, .int (twnI (Sv (M 319)) i (twnS (Sv (M 319)) i) j), .int (nI i), .int (nI j)] [] (K, M, L, R, n, s) Q := by
        intro rb; induction rb with
        | zero =>
          intro j hib 
          have hi2b : j = i := by omega
          rw [hi2b]
          refine wp_iload3 (pc' := 20) rfl rfl ?_
          refine wp_iload2 (pc' := 21) rfl rfl ?_
          refine wp_icmpgeT rfl (nI_nlt (by omega) (by omega)) ?_
          first | refine wp_iinc2 (w := nI 1) (pc' := 71) rfl rfl rfl (by with_reducible exact nI_add _ _) rfl ?_ | refine wp_iinc2 (w := nI 1) (pc' := 71) rfl rfl rfl rfl rfl ?_
          refine wp_goto rfl ?_
          exact WP.cg (ih (i + 1) _ (by omega) (by first | rfl | assumption)) (lC1 (lI1 (by first | with_reducible rfl | rfl) (lI1 (by first | with_reducible rfl | rfl) (lC1 rfl)))) rfl (by first | with_reducible rfl | (simp only [forN, *, ↓reduceIte, not_true_eq_false, not_false_eq_true, and_self, and_true, true_and, and_false, false_and]; done) | rfl | (simp_all [forN]; done))
        | succ rb ihb =>
          intro j hib 
          have hltb : j < i := by omega
          have e1 : Sv (M 319) 6 i = M 319 (159 + 4 * i + 0) := Sv_6 (by omega)
          have e2 : Sv (M 319) 6 j = M 319 (159 + 4 * j + 0) := Sv_6 (by omega)
          have e3 : Sv (M 319) 7 i = M 319 (159 + 4 * i + 1) := Sv_7 (by omega)
          have e4 : Sv (M 319) 7 j = M 319 (159 + 4 * j + 1) := Sv_7 (by omega)
          refine wp_iload3 (pc' := 20) rfl rfl ?_
          refine wp_iload2 (pc' := 21) rfl rfl ?_
          refine wp_icmpgeF (pc' := 24) rfl (nI_lt (by omega) (by omega)) rfl ?_
          refine wp_iload1 (pc' := 25) rfl rfl ?_
          refine wp_aload0 (pc' := 26) rfl rfl ?_
          refine wp_iload2 (pc' := 27) rfl rfl ?_
          refine wp_iconst (v := nI 0) (pc' := 28) rfl rfl rfl ?_
          refine wp_callV3 (pc' := 31) rfl rfl rfl rfl rfl (by first | exact TK.k1 hT rfl | exact TK.kk hT rfl | exact TK.r hT rfl | assumption) rfl rfl ?_
          refine m_ofH hT (by omega) (by decide) ?_
          refine Cont.v ?_
          refine wp_aload0 (pc' := 32) rfl rfl ?_
          refine wp_iload3 (pc' := 33) rfl rfl ?_
          refine wp_iconst (v := nI 0) (pc' := 34) rfl rfl rfl ?_
          refine wp_callV3 (pc' := 37) rfl rfl rfl rfl rfl (by first | exact TK.k1 hT rfl | exact TK.kk hT rfl | exact TK.r hT rfl | assumption) rfl rfl ?_
          refine m_ofH hT (by omega) (by decide) ?_
          refine Cont.v ?_
          refine wp_icmpne (pc' := 40) rfl rfl ?_ ?_
          · intro h37
            refine wp_iconst (v := nI 0) (pc' := 60) rfl rfl rfl ?_
            first | refine wp_iaddN (pc' := 61) rfl (by with_reducible rfl) (by with_reducible rfl) rfl ?_ | refine wp_iadd (pc' := 61) rfl rfl ?_
            refine wp_istore1 (pc' := 62) rfl (by first | rfl | assumption) rfl ?_
            first | refine wp_iinc3 (w := nI 1) (pc' := 65) rfl rfl rfl (by with_reducible exact nI_add _ _) rfl ?_ | refine wp_iinc3 (w := nI 1) (pc' := 65) rfl rfl rfl rfl rfl ?_
            refine wp_goto rfl ?_
            exact WP.cg (ihb (j + 1) (by omega)) (lC1 (lI1 (by first | with_reducible rfl | (show _ = forN _ _ (j + 1); rw [forN, if_pos (show Sv (M 319) 6 i = Sv (M 319) 6 j ∧ Sv (M 319) 7 i = Sv (M 319) 7 j from ⟨by rw [e1, e2]; exact h37, by rw [e3, e4]; exact h52⟩)]; rfl) | (show _ = forN _ _ (j + 1); rw [forN, if_neg (fun q : Sv (M 319) 6 i = Sv (M 319) 6 j ∧ Sv (M 319) 7 i = Sv (M 319) 7 j => h52 (by rw [← e3, ← e4]; exact q.2))]; rfl) | (show _ = forN _ _ (j + 1); rw [forN, if_neg (fun q : Sv (M 319) 6 i = Sv (M 319) 6 j ∧ Sv (M 319) 7 i = Sv (M 319) 7 j => h37 (by rw [← e1, ← e2]; exact q.1))]; rfl)) (lI1 (by first | with_reducible rfl | (show _ = forN _ _ (j + 1); rw [forN, if_pos (show Sv (M 319) 6 i = Sv (M 319) 6 j ∧ Sv (M 319) 7 i = Sv (M 319) 7 j from ⟨by rw [e1, e2]; exact h37, by rw [e3, e4]; exact h52⟩)]; rfl) | (show _ = forN _ _ (j + 1); rw [forN, if_neg (fun q : Sv (M 319) 6 i = Sv (M 319) 6 j ∧ Sv (M 319) 7 i = Sv (M 319) 7 j => h52 (by rw [← e3, ← e4]; exact q.2))]; rfl) | (show _ = forN _ _ (j + 1); rw [forN, if_neg (fun q : Sv (M 319) 6 i = Sv (M 319) 6 j ∧ Sv (M 319) 7 i = Sv (M 319) 7 j => h37 (by rw [← e1, ← e2]; exact q.1))]; rfl)) (lI1 (by first | with_reducible rfl | (show _ = forN _ _ (j + 1); rw [forN, if_pos (show Sv (M 319) 6 i = Sv (M 319) 6 j ∧ Sv (M 319) 7 i = Sv (M 319) 7 j from ⟨by rw [e1, e2]; exact h37, by rw [e3, e4]; exact h52⟩)]; rfl) | (show _ = forN _ _ (j + 1); rw [forN, if_neg (fun q : Sv (M 319) 6 i = Sv (M 319) 6 j ∧ Sv (M 319) 7 i = Sv (M 319) 7 j => h52 (by rw [← e3, ← e4]; exact q.2))]; rfl) | (show _ = forN _ _ (j + 1); rw [forN, if_neg (fun q : Sv (M 319) 6 i = Sv (M 319) 6 j ∧ Sv (M 319) 7 i = Sv (M 319) 7 j => h37 (by rw [← e1, ← e2]; exact q.1))]; rfl)) rfl)))) rfl (by first | with_reducible rfl | (simp only [forN, *, ↓reduceIte, not_true_eq_false, not_false_eq_true, and_self, and_true, true_and, and_false, false_and]; done) | rfl | (simp_all [forN]; done))
          · intro h37
            refine wp_aload0 (pc' := 41) rfl rfl ?_
            refine wp_iload2 (pc' := 42) rfl rfl ?_
            refine wp_iconst (v := nI 1) (pc' := 43) rfl rfl rfl ?_
            refine wp_callV3 (pc' := 46) rfl rfl rfl rfl rfl (by first | exact TK.k1 hT rfl | exact TK.kk hT rfl | exact TK.r hT rfl | assumption) rfl rfl ?_
            refine m_ofH hT (by omega) (by decide) ?_
            refine Cont.v ?_
            refine wp_aload0 (pc' := 47) rfl rfl ?_
            refine wp_iload3 (pc' := 48) rfl rfl ?_
            refine wp_iconst (v := nI 1) (pc' := 49) rfl rfl rfl ?_
            refine wp_callV3 (pc' := 52) rfl rfl rfl rfl rfl (by first | exact TK.k1 hT rfl | exact TK.kk hT rfl | exact TK.r hT rfl | assumption) rfl rfl ?_
            refine m_ofH hT (by omega) (by decide) ?_
            refine Cont.v ?_
            refine wp_icmpne (pc' := 55) rfl rfl ?_ ?_
            · intro h52
              refine wp_iconst (v := nI 0) (pc' := 60) rfl rfl rfl ?_
              first | refine wp_iaddN (pc' := 61) rfl (by with_reducible rfl) (by with_reducible rfl) rfl ?_ | refine wp_iadd (pc' := 61) rfl rfl ?_
              refine wp_istore1 (pc' := 62) rfl (by first | rfl | assumption) rfl ?_
              first | refine wp_iinc3 (w := nI 1) (pc' := 65) rfl rfl rfl (by with_reducible exact nI_add _ _) rfl ?_ | refine wp_iinc3 (w := nI 1) (pc' := 65) rfl rfl rfl rfl rfl ?_
              refine wp_goto rfl ?_
              exact WP.cg (ihb (j + 1) (by omega)) (lC1 (lI1 (by first | with_reducible rfl | (show _ = forN _ _ (j + 1); rw [forN, if_pos (show Sv (M 319) 6 i = Sv (M 319) 6 j ∧ Sv (M 319) 7 i = Sv (M 319) 7 j from ⟨by rw [e1, e2]; exact h37, by rw [e3, e4]; exact h52⟩)]; rfl) | (show _ = forN _ _ (j + 1); rw [forN, if_neg (fun q : Sv (M 319) 6 i = Sv (M 319) 6 j ∧ Sv (M 319) 7 i = Sv (M 319) 7 j => h52 (by rw [← e3, ← e4]; exact q.2))]; rfl) | (show _ = forN _ _ (j + 1); rw [forN, if_neg (fun q : Sv (M 319) 6 i = Sv (M 319) 6 j ∧ Sv (M 319) 7 i = Sv (M 319) 7 j => h37 (by rw [← e1, ← e2]; exact q.1))]; rfl)) (lI1 (by first | with_reducible rfl | (show _ = forN _ _ (j + 1); rw [forN, if_pos (show Sv (M 319) 6 i = Sv (M 319) 6 j ∧ Sv (M 319) 7 i = Sv (M 319) 7 j from ⟨by rw [e1, e2]; exact h37, by rw [e3, e4]; exact h52⟩)]; rfl) | (show _ = forN _ _ (j + 1); rw [forN, if_neg (fun q : Sv (M 319) 6 i = Sv (M 319) 6 j ∧ Sv (M 319) 7 i = Sv (M 319) 7 j => h52 (by rw [← e3, ← e4]; exact q.2))]; rfl) | (show _ = forN _ _ (j + 1); rw [forN, if_neg (fun q : Sv (M 319) 6 i = Sv (M 319) 6 j ∧ Sv (M 319) 7 i = Sv (M 319) 7 j => h37 (by rw [← e1, ← e2]; exact q.1))]; rfl)) (lI1 (by first | with_reducible rfl | (show _ = forN _ _ (j + 1); rw [forN, if_pos (show Sv (M 319) 6 i = Sv (M 319) 6 j ∧ Sv (M 319) 7 i = Sv (M 319) 7 j from ⟨by rw [e1, e2]; exact h37, by rw [e3, e4]; exact h52⟩)]; rfl) | (show _ = forN _ _ (j + 1); rw [forN, if_neg (fun q : Sv (M 319) 6 i = Sv (M 319) 6 j ∧ Sv (M 319) 7 i = Sv (M 319) 7 j => h52 (by rw [← e3, ← e4]; exact q.2))]; rfl) | (show _ = forN _ _ (j + 1); rw [forN, if_neg (fun q : Sv (M 319) 6 i = Sv (M 319) 6 j ∧ Sv (M 319) 7 i = Sv (M 319) 7 j => h37 (by rw [← e1, ← e2]; exact q.1))]; rfl)) rfl)))) rfl (by first | with_reducible rfl | (simp only [forN, *, ↓reduceIte, not_true_eq_false, not_false_eq_true, and_self, and_true, true_and, and_false, false_and]; done) | rfl | (simp_all [forN]; done))
            · intro h52
              refine wp_iconst (v := nI 1) (pc' := 56) rfl rfl rfl ?_
              refine wp_goto rfl ?_
              first | refine wp_iaddN (pc' := 61) rfl (by with_reducible rfl) (by with_reducible rfl) rfl ?_ | refine wp_iadd (pc' := 61) rfl rfl ?_
              refine wp_istore1 (pc' := 62) rfl (by first | rfl | assumption) rfl ?_
              first | refine wp_iinc3 (w := nI 1) (pc' := 65) rfl rfl rfl (by with_reducible exact nI_add _ _) rfl ?_ | refine wp_iinc3 (w := nI 1) (pc' := 65) rfl rfl rfl rfl rfl ?_
              refine wp_goto rfl ?_
              exact WP.cg (ihb (j + 1) (by omega)) (lC1 (lI1 (by first | with_reducible rfl | (show _ = forN _ _ (j + 1); rw [forN, if_pos (show Sv (M 319) 6 i = Sv (M 319) 6 j ∧ Sv (M 319) 7 i = Sv (M 319) 7 j from ⟨by rw [e1, e2]; exact h37, by rw [e3, e4]; exact h52⟩)]; rfl) | (show _ = forN _ _ (j + 1); rw [forN, if_neg (fun q : Sv (M 319) 6 i = Sv (M 319) 6 j ∧ Sv (M 319) 7 i = Sv (M 319) 7 j => h52 (by rw [← e3, ← e4]; exact q.2))]; rfl) | (show _ = forN _ _ (j + 1); rw [forN, if_neg (fun q : Sv (M 319) 6 i = Sv (M 319) 6 j ∧ Sv (M 319) 7 i = Sv (M 319) 7 j => h37 (by rw [← e1, ← e2]; exact q.1))]; rfl)) (lI1 (by first | with_reducible rfl | (show _ = forN _ _ (j + 1); rw [forN, if_pos (show Sv (M 319) 6 i = Sv (M 319) 6 j ∧ Sv (M 319) 7 i = Sv (M 319) 7 j from ⟨by rw [e1, e2]; exact h37, by rw [e3, e4]; exact h52⟩)]; rfl) | (show _ = forN _ _ (j + 1); rw [forN, if_neg (fun q : Sv (M 319) 6 i = Sv (M 319) 6 j ∧ Sv (M 319) 7 i = Sv (M 319) 7 j => h52 (by rw [← e3, ← e4]; exact q.2))]; rfl) | (show _ = forN _ _ (j + 1); rw [forN, if_neg (fun q : Sv (M 319) 6 i = Sv (M 319) 6 j ∧ Sv (M 319) 7 i = Sv (M 319) 7 j => h37 (by rw [← e1, ← e2]; exact q.1))]; rfl)) (lI1 (by first | with_reducible rfl | (show _ = forN _ _ (j + 1); rw [forN, if_pos (show Sv (M 319) 6 i = Sv (M 319) 6 j ∧ Sv (M 319) 7 i = Sv (M 319) 7 j from ⟨by rw [e1, e2]; exact h37, by rw [e3, e4]; exact h52⟩)]; rfl) | (show _ = forN _ _ (j + 1); rw [forN, if_neg (fun q : Sv (M 319) 6 i = Sv (M 319) 6 j ∧ Sv (M 319) 7 i = Sv (M 319) 7 j => h52 (by rw [← e3, ← e4]; exact q.2))]; rfl) | (show _ = forN _ _ (j + 1); rw [forN, if_neg (fun q : Sv (M 319) 6 i = Sv (M 319) 6 j ∧ Sv (M 319) 7 i = Sv (M 319) 7 j => h37 (by rw [← e1, ← e2]; exact q.1))]; rfl)) rfl)))) rfl (by first | with_reducible rfl | (simp only [forN, *, ↓reduceIte, not_true_eq_false, not_false_eq_true, and_self, and_true, true_and, and_false, false_and]; done) | rfl | (simp_all [forN]; done))
      exact WP.cg (lp19 (i - (0)) (0) (by omega)) (lC1 (lI1 (by rfl) (lI1 (by rfl) (lI1 (by rfl) rfl)))) rfl (by first | with_reducible rfl | (simp only [forN, *, ↓reduceIte, not_true_eq_false, not_false_eq_true, and_self, and_true, true_and, and_false, false_and]; done) | rfl | (simp_all [forN]; done))
  exact WP.cg (lp9 (H - (0)) (0) _ (by omega) (by first | rfl | assumption)) (lC1 (lI1 (by rfl) (lI1 (by rfl) (lC1 rfl)))) rfl (by first | with_reducible rfl | (simp only [forN, *, ↓reduceIte, not_true_eq_false, not_false_eq_true, and_self, and_true, true_and, and_false, false_and]; done) | rfl | (simp_all [forN]; done))
theorem m_waste {d : Nat} {K : Nat → Nat × Nat} {I : Nat → Nat → Int32} {L : Nat → Nat → Int64} {R : Nat → Nat → Option Nat} {n s : Nat} {Q : Lo → Lm → Prop} {H : Nat} (hT : TK K R n) (hw : I 319 0 = nI H) (hH6 : H ≤ 6) (kk : Q (.inl (some (.int (wasF (Sv (I 319)) H (peatS (Sv (I 319))) 25)))) (K, up2 I 318 0 (nI 0), L, R, n, s)) : Ok (d + 4) 357 [.ref 318] (K, I, L, R, n, s) Q := by
  obtain ⟨-, -, hn⟩ := id hT
  refine Ok.enter (F := F_357) (ls := [.ref 318, lDead, lDead]) rfl rfl ?_
  refine wp_aload0 (pc' := 1) rfl rfl ?_
  refine wp_iconst (v := nI 0) (pc' := 2) rfl rfl rfl ?_
  refine wp_putI (pc' := 5) rfl rfl (by first | exact TK.k1 hT rfl | exact TK.kk hT rfl | exact TK.r hT rfl | assumption) (by omega) rfl ?_
  obtain ⟨M, hM⟩ : ∃ M, M = up2 I 318 0 (nI 0) := ⟨_, rfl⟩
  have hM9 : M 319 = I 319 := by rw [hM]; exact up2_row (by decide)
  rw [← hM] at kk ⊢
  try rw [← hM9] at kk
  rw [← hM9] at hw
  refine wp_aload0 (pc' := 6) rfl rfl ?_
  refine wp_callV1 (pc' := 9) rfl rfl rfl rfl rfl (by first | exact TK.k1 hT rfl | exact TK.kk hT rfl | exact TK.r hT rfl | assumption) rfl rfl ?_
  refine m_peat hT ?_
  refine Cont.v ?_
  refine wp_istore1 (pc' := 10) rfl (by first | rfl | assumption) rfl ?_
  refine wp_iconst (v := nI 0) (pc' := 11) rfl rfl rfl ?_
  refine wp_istore2 (pc' := 12) rfl (by first | rfl | assumption) rfl ?_
  have lp12 : ∀ r (i : Nat), i + r = 25 → WP (d + 3) F_357 12 [.ref 318, .int (wasF (Sv (M 319)) H (peatS (Sv (M 319))) i), .int (nI i)] [] (K, M, L, R, n, s) Q := by
    intro r; induction r with
    | zero =>
      intro i hi 
      have hi2 : i = 25 := by omega
      subst hi2
      refine wp_iload2 (pc' := 13) rfl rfl ?_
      refine wp_bipush (v := nI 25) (pc' := 15) rfl rfl rfl ?_
      refine wp_icmpgeT rfl (nI_nlt (by omega) (by omega)) ?_
      refine wp_iload1 (pc' := 45) rfl rfl ?_
      refine wp_iret rfl rfl rfl ?_
      exact kk
    | succ r ih =>
      intro i hi 
      have hlt : i < 25 := by omega
      refine wp_iload2 (pc' := 13) rfl rfl ?_
      refine wp_bipush (v := nI 25) (pc' := 15) rfl rfl rfl ?_
      refine wp_icmpgeF (pc' := 18) rfl (nI_lt (by omega) (by omega)) rfl ?_
      refine wp_iload1 (pc' := 19) rfl rfl ?_
      refine wp_aload0 (pc' := 20) rfl rfl ?_
      refine wp_iload2 (pc' := 21) rfl rfl ?_
      refine wp_callV2 (pc' := 24) rfl rfl rfl rfl rfl (by first | exact TK.k1 hT rfl | exact TK.kk hT rfl | exact TK.r hT rfl | assumption) rfl rfl ?_
      refine m_ownersOf hT hw hH6 ?_
      refine Cont.v ?_
      first | refine wp_ifneB (pc' := 27) rfl rfl ?_ ?_ | refine wp_ifne (pc' := 27) rfl rfl ?_ ?_
      · intro h24
        refine wp_iconst (v := nI 1) (pc' := 32) rfl rfl rfl ?_
        refine wp_iload2 (pc' := 33) rfl rfl ?_
        refine wp_ishl (pc' := 34) rfl rfl ?_
        refine wp_iconst (v := (-1)) (pc' := 35) rfl rfl rfl ?_
        refine wp_ixor (pc' := 36) rfl rfl ?_
        refine wp_iand (pc' := 37) rfl rfl ?_
        refine wp_istore1 (pc' := 38) rfl (by first | rfl | assumption) rfl ?_
        first | refine wp_iinc2 (w := nI 1) (pc' := 41) rfl rfl rfl (by with_reducible exact nI_add _ _) rfl ?_ | refine wp_iinc2 (w := nI 1) (pc' := 41) rfl rfl rfl rfl rfl ?_
        refine wp_goto rfl ?_
        exact WP.cg (ih (i + 1) (by omega)) (lC1 (lI1 (by first | with_reducible rfl | (show _ = forN _ _ (i + 1); rw [forN, if_pos h24]; rfl) | (show _ = forN _ _ (i + 1); rw [forN, if_neg h24]; rfl)) (lI1 (by first | with_reducible rfl | (show _ = forN _ _ (i + 1); rw [forN, if_pos h24]; rfl) | (show _ = forN _ _ (i + 1); rw [forN, if_neg h24]; rfl)) rfl))) rfl (by first | with_reducible rfl | (simp only [forN, *, ↓reduceIte, not_true_eq_false, not_false_eq_true, and_self, and_true, true_and, and_false, false_and]; done) | rfl | (simp_all [forN]; done))
      · intro h24
        refine wp_iconst (v := (-1)) (pc' := 28) rfl rfl rfl ?_
        refine wp_goto rfl ?_
        refine wp_iand (pc' := 37) rfl rfl ?_
        refine wp_istore1 (pc' := 38) rfl (by first | rfl | assumption) rfl ?_
        first | refine wp_iinc2 (w := nI 1) (pc' := 41) rfl rfl rfl (by with_reducible exact nI_add _ _) rfl ?_ | refine wp_iinc2 (w := nI 1) (pc' := 41) rfl rfl rfl rfl rfl ?_
        refine wp_goto rfl ?_
        exact WP.cg (ih (i + 1) (by omega)) (lC1 (lI1 (by first | with_reducible rfl | (show _ = forN _ _ (i + 1); rw [forN, if_pos h24]; rfl) | (show _ = forN _ _ (i + 1); rw [forN, if_neg h24]; rfl)) (lI1 (by first | with_reducible rfl | (show _ = forN _ _ (i + 1); rw [forN, if_pos h24]; rfl) | (show _ = forN _ _ (i + 1); rw [forN, if_neg h24]; rfl)) rfl))) rfl (by first | with_reducible rfl | (simp only [forN, *, ↓reduceIte, not_true_eq_false, not_false_eq_true, and_self, and_true, true_and, and_false, false_and]; done) | rfl | (simp_all [forN]; done))
  exact WP.cg (lp12 (25 - (0)) (0) (by omega)) (lC1 (lI1 (by rfl) (lI1 (by rfl) rfl))) rfl (by first | with_reducible rfl | (simp only [forN, *, ↓reduceIte, not_true_eq_false, not_false_eq_true, and_self, and_true, true_and, and_false, false_and]; done) | rfl | (simp_all [forN]; done))
theorem m_staged {d : Nat} {K : Nat → Nat × Nat} {I : Nat → Nat → Int32} {L : Nat → Nat → Int64} {R : Nat → Nat → Option Nat} {n s : Nat} {Q : Lo → Lm → Prop} {k : Nat} (hT : TK K R n) (hk : k < 3) (kk : Q (.inl (some (.int (stgS (Sv (I 319)) (nI k) 25)))) (K, up2 I 318 0 (nI 0), L, R, n, s)) : Ok (d + 3) 358 [.ref 318, .int (nI k)] (K, I, L, R, n, s) Q := by
  obtain ⟨-, -, hn⟩ := id hT
  refine Ok.enter (F := F_358) (ls := [.ref 318, .int (nI k), lDead, lDead]) rfl rfl ?_
  refine wp_aload0 (pc' := 1) rfl rfl ?_
  refine wp_iconst (v := nI 0) (pc' := 2) rfl rfl rfl ?_
  refine wp_putI (pc' := 5) rfl rfl (by first | exact TK.k1 hT rfl | exact TK.kk hT rfl | exact TK.r hT rfl | assumption) (by omega) rfl ?_
  obtain ⟨M, hM⟩ : ∃ M, M = up2 I 318 0 (nI 0) := ⟨_, rfl⟩
  have hM9 : M 319 = I 319 := by rw [hM]; exact up2_row (by decide)
  rw [← hM] at kk ⊢
  try rw [← hM9] at kk
  refine wp_aload0 (pc' := 6) rfl rfl ?_
  refine wp_iload1 (pc' := 7) rfl rfl ?_
  refine wp_iconst (v := nI 0) (pc' := 8) rfl rfl rfl ?_
  refine wp_iconst (v := nI 2) (pc' := 9) rfl rfl rfl ?_
  refine wp_callS3 (pc' := 12) rfl rfl rfl rfl rfl rfl ?_
  refine m_in1 (nI_pos (by omega)) (nI_nlt (by omega) (by omega)) ?_
  refine Cont.v ?_
  refine wp_ifneT rfl (by decide) ?_
  refine wp_iconst (v := nI 0) (pc' := 20) rfl rfl rfl ?_
  refine wp_iconst (v := nI 1) (pc' := 21) rfl rfl rfl ?_
  refine wp_callV3 (pc' := 24) rfl rfl rfl rfl rfl (by first | exact TK.k1 hT rfl | exact TK.kk hT rfl | exact TK.r hT rfl | assumption) rfl rfl ?_
  refine m_tfN hT ?_
  refine Cont.v ?_
  refine wp_ifeqT rfl rfl ?_
  refine wp_iconst (v := nI 0) (pc' := 30) rfl rfl rfl ?_
  refine wp_istore2 (pc' := 31) rfl (by first | rfl | assumption) rfl ?_
  refine wp_iconst (v := nI 0) (pc' := 32) rfl rfl rfl ?_
  refine wp_istore3 (pc' := 33) rfl (by first | rfl | assumption) rfl ?_
  have lp33 : ∀ r (i : Nat), i + r = 25 → WP (d + 2) F_358 33 [.ref 318, .int (nI k), .int (stgS (Sv (M 319)) (nI k) i), .int (nI i)] [] (K, M, L, R, n, s) Q := by
    intro r; induction r with
    | zero =>
      intro i hi 
      have hi2 : i = 25 := by omega
      subst hi2
      refine wp_iload3 (pc' := 34) rfl rfl ?_
      refine wp_bipush (v := nI 25) (pc' := 36) rfl rfl rfl ?_
      refine wp_icmpgeT rfl (nI_nlt (by omega) (by omega)) ?_
      refine wp_iload2 (pc' := 69) rfl rfl ?_
      refine wp_iret rfl rfl rfl ?_
      exact kk
    | succ r ih =>
      intro i hi 
      have hlt : i < 25 := by omega
      have e5 : Sv (M 319) 5 i = M 319 (9 + 6 * i + 5) := Sv_5 (by omega)
      have e3 : Sv (M 319) 3 i = M 319 (9 + 6 * i + 3) := Sv_3 (by omega)
      refine wp_iload3 (pc' := 34) rfl rfl ?_
      refine wp_bipush (v := nI 25) (pc' := 36) rfl rfl rfl ?_
      refine wp_icmpgeF (pc' := 39) rfl (nI_lt (by omega) (by omega)) rfl ?_
      refine wp_iload2 (pc' := 40) rfl rfl ?_
      refine wp_aload0 (pc' := 41) rfl rfl ?_
      refine wp_iload3 (pc' := 42) rfl rfl ?_
      refine wp_iconst (v := nI 5) (pc' := 43) rfl rfl rfl ?_
      refine wp_callV3 (pc' := 46) rfl rfl rfl rfl rfl (by first | exact TK.k1 hT rfl | exact TK.kk hT rfl | exact TK.r hT rfl | assumption) rfl rfl ?_
      refine m_of hT (by omega) (by decide) ?_
      refine Cont.v ?_
      refine wp_iload1 (pc' := 47) rfl rfl ?_
      refine wp_icmpne (pc' := 50) rfl rfl ?_ ?_
      · intro h47
        refine wp_iconst (v := nI 0) (pc' := 60) rfl rfl rfl ?_
        first | refine wp_iaddN (pc' := 61) rfl (by with_reducible rfl) (by with_reducible rfl) rfl ?_ | refine wp_iadd (pc' := 61) rfl rfl ?_
        refine wp_istore2 (pc' := 62) rfl (by first | rfl | assumption) rfl ?_
        first | refine wp_iinc3 (w := nI 1) (pc' := 65) rfl rfl rfl (by with_reducible exact nI_add _ _) rfl ?_ | refine wp_iinc3 (w := nI 1) (pc' := 65) rfl rfl rfl rfl rfl ?_
        refine wp_goto rfl ?_
        exact WP.cg (ih (i + 1) (by omega)) (lC1 (lI1 (by first | with_reducible rfl | (show _ = forN _ _ (i + 1); rw [forN, if_pos (show Sv (M 319) 5 i = nI k by rw [e5]; exact h47), e3]; rfl) | (show _ = forN _ _ (i + 1); rw [forN, if_neg (show ¬ Sv (M 319) 5 i = nI k by rw [e5]; exact h47)]; rfl)) (lI1 (by first | with_reducible rfl | (show _ = forN _ _ (i + 1); rw [forN, if_pos (show Sv (M 319) 5 i = nI k by rw [e5]; exact h47), e3]; rfl) | (show _ = forN _ _ (i + 1); rw [forN, if_neg (show ¬ Sv (M 319) 5 i = nI k by rw [e5]; exact h47)]; rfl)) (lI1 (by first | with_reducible rfl | (show _ = forN _ _ (i + 1); rw [forN, if_pos (show Sv (M 319) 5 i = nI k by rw [e5]; exact h47), e3]; rfl) | (show _ = forN _ _ (i + 1); rw [forN, if_neg (show ¬ Sv (M 319) 5 i = nI k by rw [e5]; exact h47)]; rfl)) rfl)))) rfl (by first | with_reducible rfl | (simp only [forN, *, ↓reduceIte, not_true_eq_false, not_false_eq_true, and_self, and_true, true_and, and_false, false_and]; done) | rfl | (simp_all [forN]; done))
      · intro h47
        refine wp_aload0 (pc' := 51) rfl rfl ?_
        refine wp_iload3 (pc' := 52) rfl rfl ?_
        refine wp_iconst (v := nI 3) (pc' := 53) rfl rfl rfl ?_
        refine wp_callV3 (pc' := 56) rfl rfl rfl rfl rfl (by first | exact TK.k1 hT rfl | exact TK.kk hT rfl | exact TK.r hT rfl | assumption) rfl rfl ?_
        refine m_of hT (by omega) (by decide) ?_
        refine Cont.v ?_
        refine wp_goto rfl ?_
        first | refine wp_iaddN (pc' := 61) rfl (by with_reducible rfl) (by with_reducible rfl) rfl ?_ | refine wp_iadd (pc' := 61) rfl rfl ?_
        refine wp_istore2 (pc' := 62) rfl (by first | rfl | assumption) rfl ?_
        first | refine wp_iinc3 (w := nI 1) (pc' := 65) rfl rfl rfl (by with_reducible exact nI_add _ _) rfl ?_ | refine wp_iinc3 (w := nI 1) (pc' := 65) rfl rfl rfl rfl rfl ?_
        refine wp_goto rfl ?_
        exact WP.cg (ih (i + 1) (by omega)) (lC1 (lI1 (by first | with_reducible rfl | (show _ = forN _ _ (i + 1); rw [forN, if_pos (show Sv (M 319) 5 i = nI k by rw [e5]; exact h47), e3]; rfl) | (show _ = forN _ _ (i + 1); rw [forN, if_neg (show ¬ Sv (M 319) 5 i = nI k by rw [e5]; exact h47)]; rfl)) (lI1 (by first | with_reducible rfl | (show _ = forN _ _ (i + 1); rw [forN, if_pos (show Sv (M 319) 5 i = nI k by rw [e5]; exact h47), e3]; rfl) | (show _ = forN _ _ (i + 1); rw [forN, if_neg (show ¬ Sv (M 319) 5 i = nI k by rw [e5]; exact h47)]; rfl)) (lI1 (by first | with_reducible rfl | (show _ = forN _ _ (i + 1); rw [forN, if_pos (show Sv (M 319) 5 i = nI k by rw [e5]; exact h47), e3]; rfl) | (show _ = forN _ _ (i + 1); rw [forN, if_neg (show ¬ Sv (M 319) 5 i = nI k by rw [e5]; exact h47)]; rfl)) rfl)))) rfl (by first | with_reducible rfl | (simp only [forN, *, ↓reduceIte, not_true_eq_false, not_false_eq_true, and_self, and_true, true_and, and_false, false_and]; done) | rfl | (simp_all [forN]; done))
  exact WP.cg (lp33 (25 - (0)) (0) (by omega)) (lC1 (lI1 (by rfl) (lI1 (by rfl) (lI1 (by rfl) rfl)))) rfl (by first | with_reducible rfl | (simp only [forN, *, ↓reduceIte, not_true_eq_false, not_false_eq_true, and_self, and_true, true_and, and_false, false_and]; done) | rfl | (simp_all [forN]; done))
theorem m_stagedE {d : Nat} {K : Nat → Nat × Nat} {I : Nat → Nat → Int32} {L : Nat → Nat → Int64} {R : Nat → Nat → Option Nat} {n s : Nat} {Q : Lo → Lm → Prop} {x : Int32} (hT : TK K R n) (hx : ¬ InR x 3) (kk : Q (.inl (some (.int (nI 0)))) (K, up2 I 318 0 (nI 1), L, R, n, s)) : Ok (d + 3) 358 [.ref 318, .int x] (K, I, L, R, n, s) Q := by
  obtain ⟨-, -, hn⟩ := id hT
  refine Ok.enter (F := F_358) (ls := [.ref 318, .int x, lDead, lDead]) rfl rfl ?_
  refine wp_aload0 (pc' := 1) rfl rfl ?_
  refine wp_iconst (v := nI 0) (pc' := 2) rfl rfl rfl ?_
  refine wp_putI (pc' := 5) rfl rfl (by first | exact TK.k1 hT rfl | exact TK.kk hT rfl | exact TK.r hT rfl | assumption) (by omega) rfl ?_
  refine wp_aload0 (pc' := 6) rfl rfl ?_
  refine wp_iload1 (pc' := 7) rfl rfl ?_
  refine wp_iconst (v := nI 0) (pc' := 8) rfl rfl rfl ?_
  refine wp_iconst (v := nI 2) (pc' := 9) rfl rfl rfl ?_
  refine wp_callS3 (pc' := 12) rfl rfl rfl rfl rfl rfl ?_
  refine m_in0 (fun q => hx ((InR_iff (k := 2) (by decide)).mp q)) ?_
  refine Cont.v ?_
  refine wp_ifneF (pc' := 15) rfl rfl rfl ?_
  refine wp_iconst (v := nI 1) (pc' := 16) rfl rfl rfl ?_
  refine wp_goto rfl ?_
  refine wp_iconst (v := nI 1) (pc' := 21) rfl rfl rfl ?_
  refine wp_callV3 (pc' := 24) rfl rfl rfl rfl rfl (by first | exact TK.k1 hT rfl | exact TK.kk hT rfl | exact TK.r hT rfl | assumption) rfl rfl ?_
  refine m_tfY hT ?_
  refine Cont.v ?_
  refine wp_ifeqF (pc' := 27) rfl (by decide) rfl ?_
  refine wp_iconst (v := nI 0) (pc' := 28) rfl rfl rfl ?_
  refine wp_iret rfl rfl rfl ?_
  rw [up318]
  exact kk
theorem m_heapOf {d : Nat} {K : Nat → Nat × Nat} {I : Nat → Nat → Int32} {L : Nat → Nat → Int64} {R : Nat → Nat → Option Nat} {n s : Nat} {Q : Lo → Lm → Prop} {x : Int32} (hT : TK K R n) (kk : Q (.inl (some (.int (heaC (Sv (I 319)) x 25)))) (K, I, L, R, n, s)) : Ok (d + 3) 336 [.ref 318, .int x] (K, I, L, R, n, s) Q := by
  obtain ⟨-, -, hn⟩ := id hT
  refine Ok.enter (F := F_336) (ls := [.ref 318, .int x, lDead, lDead]) rfl rfl ?_
  refine wp_iconst (v := nI 0) (pc' := 1) rfl rfl rfl ?_
  refine wp_istore2 (pc' := 2) rfl (by first | rfl | assumption) rfl ?_
  refine wp_iconst (v := nI 0) (pc' := 3) rfl rfl rfl ?_
  refine wp_istore3 (pc' := 4) rfl (by first | rfl | assumption) rfl ?_
  have lp4 : ∀ r (i : Nat), i + r = 25 → WP (d + 2) F_336 4 [.ref 318, .int x, .int (heaC (Sv (I 319)) x i), .int (nI i)] [] (K, I, L, R, n, s) Q := by
    intro r; induction r with
    | zero =>
      intro i hi 
      have hi2 : i = 25 := by omega
      subst hi2
      refine wp_iload3 (pc' := 5) rfl rfl ?_
      refine wp_bipush (v := nI 25) (pc' := 7) rfl rfl rfl ?_
      refine wp_icmpgeT rfl (nI_nlt (by omega) (by omega)) ?_
      refine wp_iload2 (pc' := 40) rfl rfl ?_
      refine wp_iret rfl rfl rfl ?_
      exact kk
    | succ r ih =>
      intro i hi 
      have hlt : i < 25 := by omega
      have e1 : Sv (I 319) 1 i = I 319 (9 + 6 * i + 0) := Sv_1 (by omega)
      refine wp_iload3 (pc' := 5) rfl rfl ?_
      refine wp_bipush (v := nI 25) (pc' := 7) rfl rfl rfl ?_
      refine wp_icmpgeF (pc' := 10) rfl (nI_lt (by omega) (by omega)) rfl ?_
      refine wp_iload2 (pc' := 11) rfl rfl ?_
      refine wp_iload1 (pc' := 12) rfl rfl ?_
      refine wp_iload3 (pc' := 13) rfl rfl ?_
      refine wp_callS2 (pc' := 16) rfl rfl rfl rfl rfl rfl ?_
      refine m_has ?_
      refine Cont.v ?_
      first | refine wp_ifeqB (pc' := 19) rfl rfl ?_ ?_ | refine wp_ifeq (pc' := 19) rfl rfl ?_ ?_
      · intro h16
        refine wp_iconst (v := nI 0) (pc' := 31) rfl rfl rfl ?_
        refine wp_ixor (pc' := 32) rfl rfl ?_
        refine wp_istore2 (pc' := 33) rfl (by first | rfl | assumption) rfl ?_
        first | refine wp_iinc3 (w := nI 1) (pc' := 36) rfl rfl rfl (by with_reducible exact nI_add _ _) rfl ?_ | refine wp_iinc3 (w := nI 1) (pc' := 36) rfl rfl rfl rfl rfl ?_
        refine wp_goto rfl ?_
        exact WP.cg (ih (i + 1) (by omega)) (lC1 (lI1 (by first | with_reducible rfl | (show _ = forN _ _ (i + 1); rw [forN, if_pos h16, e1]; rfl) | (show _ = forN _ _ (i + 1); rw [forN, if_neg h16]; rfl)) (lI1 (by first | with_reducible rfl | (show _ = forN _ _ (i + 1); rw [forN, if_pos h16, e1]; rfl) | (show _ = forN _ _ (i + 1); rw [forN, if_neg h16]; rfl)) (lI1 (by first | with_reducible rfl | (show _ = forN _ _ (i + 1); rw [forN, if_pos h16, e1]; rfl) | (show _ = forN _ _ (i + 1); rw [forN, if_neg h16]; rfl)) rfl)))) rfl (by first | with_reducible rfl | (simp only [forN, *, ↓reduceIte, not_true_eq_false, not_false_eq_true, and_self, and_true, true_and, and_false, false_and]; done) | rfl | (simp_all [forN]; done))
      · intro h16
        refine wp_aload0 (pc' := 20) rfl rfl ?_
        refine wp_iload3 (pc' := 21) rfl rfl ?_
        refine wp_iconst (v := nI 0) (pc' := 22) rfl rfl rfl ?_
        refine wp_callV3 (pc' := 25) rfl rfl rfl rfl rfl (by first | exact TK.k1 hT rfl | exact TK.kk hT rfl | exact TK.r hT rfl | assumption) rfl rfl ?_
        refine m_of hT (by omega) (by decide) ?_
        refine Cont.v ?_
        refine wp_iconst (v := nI 4) (pc' := 26) rfl rfl rfl ?_
        first | refine wp_iremN (pc' := 27) rfl (by with_reducible rfl) (by with_reducible rfl) (by omega) (by omega) (by omega) rfl ?_ | refine wp_irem (pc' := 27) rfl (by decide) rfl ?_
        refine wp_goto rfl ?_
        refine wp_ixor (pc' := 32) rfl rfl ?_
        refine wp_istore2 (pc' := 33) rfl (by first | rfl | assumption) rfl ?_
        first | refine wp_iinc3 (w := nI 1) (pc' := 36) rfl rfl rfl (by with_reducible exact nI_add _ _) rfl ?_ | refine wp_iinc3 (w := nI 1) (pc' := 36) rfl rfl rfl rfl rfl ?_
        refine wp_goto rfl ?_
        exact WP.cg (ih (i + 1) (by omega)) (lC1 (lI1 (by first | with_reducible rfl | (show _ = forN _ _ (i + 1); rw [forN, if_pos h16, e1]; rfl) | (show _ = forN _ _ (i + 1); rw [forN, if_neg h16]; rfl)) (lI1 (by first | with_reducible rfl | (show _ = forN _ _ (i + 1); rw [forN, if_pos h16, e1]; rfl) | (show _ = forN _ _ (i + 1); rw [forN, if_neg h16]; rfl)) (lI1 (by first | with_reducible rfl | (show _ = forN _ _ (i + 1); rw [forN, if_pos h16, e1]; rfl) | (show _ = forN _ _ (i + 1); rw [forN, if_neg h16]; rfl)) rfl)))) rfl (by first | with_reducible rfl | (simp only [forN, *, ↓reduceIte, not_true_eq_false, not_false_eq_true, and_self, and_true, true_and, and_false, false_and]; done) | rfl | (simp_all [forN]; done))
  exact WP.cg (lp4 (25 - (0)) (0) (by omega)) (lC1 (lI1 (by rfl) (lI1 (by rfl) (lI1 (by rfl) rfl)))) rfl (by first | with_reducible rfl | (simp only [forN, *, ↓reduceIte, not_true_eq_false, not_false_eq_true, and_self, and_true, true_and, and_false, false_and]; done) | rfl | (simp_all [forN]; done))
theorem m_last {d : Nat} {K : Nat → Nat × Nat} {I : Nat → Nat → Int32} {L : Nat → Nat → Int64} {R : Nat → Nat → Option Nat} {n s : Nat} {Q : Lo → Lm → Prop} {x : Int32} (hT : TK K R n) (kk : Q (.inl (some (.int (if ¬ heaC (Sv (I 319)) x 25 = nI 0 then nI 1 else nI 0)))) (K, up2 I 318 0 (nI 0), L, R, n, s)) : Ok (d + 4) 335 [.ref 318, .int x] (K, I, L, R, n, s) Q := by
  obtain ⟨-, -, hn⟩ := id hT
  refine Ok.enter (F := F_335) (ls := [.ref 318, .int x]) rfl rfl ?_
  refine wp_aload0 (pc' := 1) rfl rfl ?_
  refine wp_iconst (v := nI 0) (pc' := 2) rfl rfl rfl ?_
  refine wp_putI (pc' := 5) rfl rfl (by first | exact TK.k1 hT rfl | exact TK.kk hT rfl | exact TK.r hT rfl | assumption) (by omega) rfl ?_
  obtain ⟨M, hM⟩ : ∃ M, M = up2 I 318 0 (nI 0) := ⟨_, rfl⟩
  have hM9 : M 319 = I 319 := by rw [hM]; exact up2_row (by decide)
  rw [← hM] at kk ⊢
  try rw [← hM9] at kk
  refine wp_aload0 (pc' := 6) rfl rfl ?_
  refine wp_iload1 (pc' := 7) rfl rfl ?_
  refine wp_callV2 (pc' := 10) rfl rfl rfl rfl rfl (by first | exact TK.k1 hT rfl | exact TK.kk hT rfl | exact TK.r hT rfl | assumption) rfl rfl ?_
  refine m_heapOf hT ?_
  refine Cont.v ?_
  first | refine wp_ifeqB (pc' := 13) rfl rfl ?_ ?_ | refine wp_ifeq (pc' := 13) rfl rfl ?_ ?_
  · intro h10
    refine wp_iconst (v := nI 0) (pc' := 18) rfl rfl rfl ?_
    refine wp_iret rfl rfl (by first | rfl | exact nar_if) ?_
    exact Qv kk (by first | rw [if_pos h10] | rw [if_neg h10] | rw [if_pos (fun q => h10 q)] | rw [if_neg (fun q => q h10)]) rfl
  · intro h10
    refine wp_iconst (v := nI 1) (pc' := 14) rfl rfl rfl ?_
    refine wp_goto rfl ?_
    refine wp_iret rfl rfl (by first | rfl | exact nar_if) ?_
    exact Qv kk (by first | rw [if_pos h10] | rw [if_neg h10] | rw [if_pos (fun q => h10 q)] | rw [if_neg (fun q => q h10)]) rfl
theorem m_hag {d : Nat} {K : Nat → Nat × Nat} {I : Nat → Nat → Int32} {L : Nat → Nat → Int64} {R : Nat → Nat → Option Nat} {n s : Nat} {Q : Lo → Lm → Prop} {c : Nat} (hT : TK K R n) (hc : c < 25) (kk : Q (.inl (some (.int (pieC c (peatS (Sv (I 319))))))) (K, up2 I 318 0 (nI 0), L, R, n, s)) : Ok (d + 4) 341 [.ref 318, .int (nI c)] (K, I, L, R, n, s) Q := by
  obtain ⟨-, -, hn⟩ := id hT
  refine Ok.enter (F := F_341) (ls := [.ref 318, .int (nI c)]) rfl rfl ?_
  refine wp_aload0 (pc' := 1) rfl rfl ?_
  refine wp_iconst (v := nI 0) (pc' := 2) rfl rfl rfl ?_
  refine wp_putI (pc' := 5) rfl rfl (by first | exact TK.k1 hT rfl | exact TK.kk hT rfl | exact TK.r hT rfl | assumption) (by omega) rfl ?_
  obtain ⟨M, hM⟩ : ∃ M, M = up2 I 318 0 (nI 0) := ⟨_, rfl⟩
  have hM9 : M 319 = I 319 := by rw [hM]; exact up2_row (by decide)
  rw [← hM] at kk ⊢
  try rw [← hM9] at kk
  refine wp_aload0 (pc' := 6) rfl rfl ?_
  refine wp_iload1 (pc' := 7) rfl rfl ?_
  refine wp_callS1 (pc' := 10) rfl rfl rfl rfl rfl rfl ?_
  refine m_noCell1 hc ?_
  refine Cont.v ?_
  refine wp_iconst (v := nI 1) (pc' := 11) rfl rfl rfl ?_
  refine wp_callV3 (pc' := 14) rfl rfl rfl rfl rfl (by first | exact TK.k1 hT rfl | exact TK.kk hT rfl | exact TK.r hT rfl | assumption) rfl rfl ?_
  refine m_tfN hT ?_
  refine Cont.v ?_
  refine wp_ifeqT rfl rfl ?_
  refine wp_iload1 (pc' := 22) rfl rfl ?_
  refine wp_aload0 (pc' := 23) rfl rfl ?_
  refine wp_callV1 (pc' := 26) rfl rfl rfl rfl rfl (by first | exact TK.k1 hT rfl | exact TK.kk hT rfl | exact TK.r hT rfl | assumption) rfl rfl ?_
  refine m_peat hT ?_
  refine Cont.v ?_
  refine wp_callS2 (pc' := 29) rfl rfl rfl rfl rfl rfl ?_
  refine m_pieceOf ?_
  refine Cont.v ?_
  refine wp_iret rfl rfl rfl ?_
  exact kk
theorem m_hagE {d : Nat} {K : Nat → Nat × Nat} {I : Nat → Nat → Int32} {L : Nat → Nat → Int64} {R : Nat → Nat → Option Nat} {n s : Nat} {Q : Lo → Lm → Prop} {x : Int32} (hT : TK K R n) (hx : ¬ InR x 25) (kk : Q (.inl (some (.int (nI 0)))) (K, up2 I 318 0 (nI 1), L, R, n, s)) : Ok (d + 4) 341 [.ref 318, .int x] (K, I, L, R, n, s) Q := by
  obtain ⟨-, -, hn⟩ := id hT
  refine Ok.enter (F := F_341) (ls := [.ref 318, .int x]) rfl rfl ?_
  refine wp_aload0 (pc' := 1) rfl rfl ?_
  refine wp_iconst (v := nI 0) (pc' := 2) rfl rfl rfl ?_
  refine wp_putI (pc' := 5) rfl rfl (by first | exact TK.k1 hT rfl | exact TK.kk hT rfl | exact TK.r hT rfl | assumption) (by omega) rfl ?_
  refine wp_aload0 (pc' := 6) rfl rfl ?_
  refine wp_iload1 (pc' := 7) rfl rfl ?_
  refine wp_callS1 (pc' := 10) rfl rfl rfl rfl rfl rfl ?_
  refine m_noCell0 hx ?_
  refine Cont.v ?_
  refine wp_iconst (v := nI 1) (pc' := 11) rfl rfl rfl ?_
  refine wp_callV3 (pc' := 14) rfl rfl rfl rfl rfl (by first | exact TK.k1 hT rfl | exact TK.kk hT rfl | exact TK.r hT rfl | assumption) rfl rfl ?_
  refine m_tfY hT ?_
  refine Cont.v ?_
  refine wp_ifeqF (pc' := 17) rfl (by decide) rfl ?_
  refine wp_iconst (v := nI 0) (pc' := 18) rfl rfl rfl ?_
  refine wp_goto rfl ?_
  refine wp_iret rfl rfl rfl ?_
  rw [up318]
  exact kk
theorem m_seed {d : Nat} {K : Nat → Nat × Nat} {I : Nat → Nat → Int32} {L : Nat → Nat → Int64} {R : Nat → Nat → Option Nat} {n s : Nat} {Q : Lo → Lm → Prop} {x : Int32} (hT : TK K R n) (kk : Q (.inl (some (.int (I 319 8)))) (K, up2 (up2 I 318 0 (nI 0)) 319 8 x, L, R, n, s)) : Ok (d + 1) 367 [.ref 318, .int x] (K, I, L, R, n, s) Q := by
  obtain ⟨-, -, hn⟩ := id hT
  refine Ok.enter (F := F_367) (ls := [.ref 318, .int x, lDead]) rfl rfl ?_
  refine wp_aload0 (pc' := 1) rfl rfl ?_
  refine wp_iconst (v := nI 0) (pc' := 2) rfl rfl rfl ?_
  refine wp_putI (pc' := 5) rfl rfl (by first | exact TK.k1 hT rfl | exact TK.kk hT rfl | exact TK.r hT rfl | assumption) (by omega) rfl ?_
  obtain ⟨M, hM⟩ : ∃ M, M = up2 I 318 0 (nI 0) := ⟨_, rfl⟩
  have hM9 : M 319 = I 319 := by rw [hM]; exact up2_row (by decide)
  rw [← hM] at kk ⊢
  try rw [← hM9] at kk
  refine wp_aload0 (pc' := 6) rfl rfl ?_
  refine wp_getRF (pc' := 9) rfl rfl (by first | exact TK.k1 hT rfl | exact TK.kk hT rfl | exact TK.r hT rfl | assumption) (by first | exact TK.k1 hT rfl | exact TK.kk hT rfl | exact TK.r hT rfl | assumption) rfl ?_
  refine wp_bipush (v := nI 8) (pc' := 11) rfl rfl rfl ?_
  refine wp_iald _ (pc' := 12) rfl (by first | exact TK.k1 hT rfl | exact TK.kk hT rfl | exact TK.r hT rfl | assumption) (by with_reducible rfl) (by omega) (by first | decide | assumption | omega) rfl ?_
  refine wp_istore2 (pc' := 13) rfl (by first | rfl | assumption) rfl ?_
  refine wp_aload0 (pc' := 14) rfl rfl ?_
  refine wp_getRF (pc' := 17) rfl rfl (by first | exact TK.k1 hT rfl | exact TK.kk hT rfl | exact TK.r hT rfl | assumption) (by first | exact TK.k1 hT rfl | exact TK.kk hT rfl | exact TK.r hT rfl | assumption) rfl ?_
  refine wp_bipush (v := nI 8) (pc' := 19) rfl rfl rfl ?_
  refine wp_iload1 (pc' := 20) rfl rfl ?_
  refine wp_iast _ (pc' := 21) rfl (by first | exact TK.k1 hT rfl | exact TK.kk hT rfl | exact TK.r hT rfl | assumption) (by omega) (by with_reducible rfl) (by omega) (by first | decide | assumption | omega) rfl ?_
  refine wp_iload2 (pc' := 22) rfl rfl ?_
  refine wp_iret rfl rfl rfl ?_
  exact kk
