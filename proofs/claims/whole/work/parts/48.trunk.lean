/-! TRUNKS -/
def rtC (w : Nat) : Int32 := if nI w = nI 1 then nI 0 else if nI w = nI 3 then -1 else nI 1
def dnC (w : Nat) : Int32 := if nI w = nI 0 then nI 0 else nI 1
def lxC (k : Nat) : Int32 := nI (k % 25 % 5) + rtC (k / 25 % 4) * nI (k / 100 + 2 - 1)
def lyC (k : Nat) : Int32 := nI (k % 25 / 5) + dnC (k / 25 % 4) * nI (k / 100 + 2 - 1)
def tkN (k i : Nat) : Int32 := forN (fun j x => x ||| jshl (nI 1) (nI (k % 25) + nI j * (rtC (k / 25 % 4) + nI 5 * dnC (k / 25 % 4)))) (nI 0) i
def cellC (k : Nat) : Int32 := if lxC k < nI 0 then nI 0 else if ¬ lxC k < nI 5 then nI 0 else if ¬ lyC k < nI 5 then nI 0 else tkN k (k / 100 + 2)
def wrN (h : Int32) (W : Nat → Int32) (x : Int32) (i : Nat) : Int32 := forN (fun c f => if hasP x c then f + W c else f) h i
def wrC (h : Int32) (W : Nat → Int32) (x : Int32) : Int32 := if x = nI 0 then nI 2 else jmin (wrN h W x 25) (nI 2)
def telS (tv : Nat → Nat) (i : Nat) (p : (Nat → Int32) × Int32) : (Nat → Int32) × Int32 := (up1 p.1 (tv (2 * i)) (p.1 (tv (2 * i)) + (if nI (tv (2 * i + 1)) = nI 1 then -1 else nI 1)), p.2 + (if nI (tv (2 * i + 1)) = nI 1 then nI 1 else nI 0))
def telF (tv : Nat → Nat) (W : Nat → Int32) (i : Nat) : (Nat → Int32) × Int32 := forN (fun j p => telS tv j p) (W, nI 0) i
def cntC (h : Int32) (W : Nat → Int32) (i : Nat) : Int32 := forN (fun j f => if wrC h W (cellC j) < nI 2 then f + nI 1 else f) (nI 0) i
def lwS (h : Int32) (W : Nat → Int32) (j : Nat) (p : Int32 × Int32) : Int32 × Int32 := if wrC h W (cellC j) < p.1 then (wrC h W (cellC j), nI j) else p
def lwC (h : Int32) (W : Nat → Int32) (i : Nat) : Int32 × Int32 := forN (fun j p => lwS h W j p) (nI 2, -1) i
def hdI (x : Int32) (G : Nat → Int32) (i : Nat) : Nat → Int32 := forN (fun c g => up1 g c (g c + (jshr x (nI c) &&& nI 1))) G i
def hdS (h : Int32) (W : Nat → Int32) (j : Nat) (p : (Nat → Int32) × Int32) : (Nat → Int32) × Int32 := if wrC h W (cellC j) < nI 2 then (hdI (cellC j) p.1 25, p.2 + nI 1) else p
def hdF (h : Int32) (W G : Nat → Int32) (i : Nat) : (Nat → Int32) × Int32 := forN (fun j p => hdS h W j p) (G, nI 0) i
def bcS (G : Nat → Int32) (f : Int32) (c : Nat) (p : Int32 × Int32) : Int32 × Int32 := if jmax (G c) (f - G c) < p.1 then (jmax (G c) (f - G c), nI c) else p
def bcF (G : Nat → Int32) (f : Int32) (i : Nat) : Int32 × Int32 := forN (fun c p => bcS G f c p) (nI 401, -1) i
def bcV (G : Nat → Int32) (f : Int32) : Int32 := if nI 1 < f then (bcF G f 25).2 else -1
theorem tel_eq {I : Mem} {G : Nat → Int32} {h u v : Int32} {c : Nat} : up2 (up2 (upr (up2 I 66 2 h) 67 G) 67 c u) 66 2 v = upr (up2 I 66 2 v) 67 (up1 G c u) := by
  rw [up2_upr]
  funext a j
  by_cases h1 : a = 66
  · subst h1
    rw [up2_same, upr_ne (by decide), upr_ne (by decide), up2_same, up2_same]
    by_cases h2 : j = 2
    · rw [if_pos h2, if_pos h2]
    · rw [if_neg h2, if_neg h2, if_neg h2]
  · rw [up2_row h1]
    by_cases h2 : a = 67
    · subst h2; rw [upr_same, upr_same]
    · rw [upr_ne h2, upr_ne h2, up2_row h1, up2_row h1]
theorem tel_0 {I : Mem} {G : Nat → Int32} {v : Int32} : up2 (upr I 67 G) 66 2 v = upr (up2 I 66 2 v) 67 G := by
  funext a j
  by_cases h1 : a = 66
  · subst h1; rw [up2_same, upr_ne (by decide), upr_ne (by decide), up2_same]
  · rw [up2_row h1]
    by_cases h2 : a = 67
    · subst h2; rw [upr_same, upr_same]
    · rw [upr_ne h2, upr_ne h2, up2_row h1]
def telW (I : Mem) (tv : Nat → Nat) (T : Nat) : (Nat → Int32) × Int32 := telF tv (fillR 25 (nI 0) (I 67)) (T / 2)
def telM (I : Mem) (tv : Nat → Nat) (T : Nat) : Mem := upr (up2 (up2 I 0 7 (nI 0)) 66 2 (telW I tv T).2) 67 (telW I tv T).1
theorem telM_66 {I : Mem} {tv : Nat → Nat} {T : Nat} : telM I tv T 66 2 = (telW I tv T).2 := by unfold telM; rw [upr_ne (by decide), up2_hit]
theorem telM_67 {I : Mem} {tv : Nat → Nat} {T : Nat} : telM I tv T 67 = (telW I tv T).1 := by unfold telM; rw [upr_same]

theorem c_cellsOf {d : Nat} {K : Nat → Nat × Nat} {I : Nat → Nat → Int32} {L : Nat → Nat → Int64} {R : Nat → Nat → Option Nat} {n s : Nat} {Q : Lo → Lm → Prop} {k : Nat} (hk : k < 400) (kk : Q (.inl (some (.int (cellC k)))) (K, I, L, R, n, s)) : Ok (d + 1) 155 [.int (nI k)] (K, I, L, R, n, s) Q := by
  refine Ok.enter (F := F_155) (ls := [.int (nI k), lDead, lDead, lDead, lDead, lDead, lDead, lDead, lDead, lDead]) rfl rfl ?_
  refine wp_iload0 (pc' := 1) rfl rfl ?_
  refine wp_bipush (v := nI 100) (pc' := 3) rfl rfl rfl ?_
  first | refine wp_idivN (pc' := 4) rfl (by with_reducible rfl) (by with_reducible rfl) (by omega) (by omega) (by omega) rfl ?_ | refine wp_idiv (pc' := 4) rfl (by decide) rfl ?_
  refine wp_iconst (v := nI 2) (pc' := 5) rfl rfl rfl ?_
  first | refine wp_iaddN (pc' := 6) rfl (by with_reducible rfl) (by with_reducible rfl) rfl ?_ | refine wp_iadd (pc' := 6) rfl rfl ?_
  refine wp_istore1 (pc' := 7) rfl (by first | rfl | assumption) rfl ?_
  refine wp_iload0 (pc' := 8) rfl rfl ?_
  refine wp_bipush (v := nI 25) (pc' := 10) rfl rfl rfl ?_
  first | refine wp_idivN (pc' := 11) rfl (by with_reducible rfl) (by with_reducible rfl) (by omega) (by omega) (by omega) rfl ?_ | refine wp_idiv (pc' := 11) rfl (by decide) rfl ?_
  refine wp_iconst (v := nI 4) (pc' := 12) rfl rfl rfl ?_
  first | refine wp_iremN (pc' := 13) rfl (by with_reducible rfl) (by with_reducible rfl) (by omega) (by omega) (by omega) rfl ?_ | refine wp_irem (pc' := 13) rfl (by decide) rfl ?_
  refine wp_istore2 (pc' := 14) rfl (by first | rfl | assumption) rfl ?_
  refine wp_iload0 (pc' := 15) rfl rfl ?_
  refine wp_bipush (v := nI 25) (pc' := 17) rfl rfl rfl ?_
  first | refine wp_iremN (pc' := 18) rfl (by with_reducible rfl) (by with_reducible rfl) (by omega) (by omega) (by omega) rfl ?_ | refine wp_irem (pc' := 18) rfl (by decide) rfl ?_
  refine wp_istore3 (pc' := 19) rfl (by first | rfl | assumption) rfl ?_
  refine wp_iload2 (pc' := 20) rfl rfl ?_
  refine wp_iconst (v := nI 1) (pc' := 21) rfl rfl rfl ?_
  refine wp_icmpne (pc' := 24) rfl rfl ?_ ?_
  · intro h21
    refine wp_iload2 (pc' := 29) rfl rfl ?_
    refine wp_iconst (v := nI 3) (pc' := 30) rfl rfl rfl ?_
    refine wp_icmpne (pc' := 33) rfl rfl ?_ ?_
    · intro h30
      refine wp_iconst (v := nI 1) (pc' := 38) rfl rfl rfl ?_
      refine wp_istore4 (pc' := 40) rfl (by first | rfl | assumption) rfl ?_
      refine WP.cg (ls' := [.int (nI k), .int (nI (k / 100 + 2)), .int (nI (k / 25 % 4)), .int (nI (k % 25)), .int (rtC (k / 25 % 4)), lDead, lDead, lDead, lDead, lDead]) ?_ (lC1 (lC1 (lC1 (lC1 (lI1 (by first | rw [rtC, if_pos h21] | rw [rtC, if_neg h21, if_pos h30] | rw [rtC, if_neg h21, if_neg h30]) rfl))))) rfl rfl
      refine wp_iload2 (pc' := 41) rfl rfl ?_
      first | refine wp_ifneB (pc' := 44) rfl rfl ?_ ?_ | refine wp_ifne (pc' := 44) rfl rfl ?_ ?_
      · intro h41
        refine wp_iconst (v := nI 1) (pc' := 49) rfl rfl rfl ?_
        refine wp_istore5 (pc' := 51) rfl (by first | rfl | assumption) rfl ?_
        refine WP.cg (ls' := [.int (nI k), .int (nI (k / 100 + 2)), .int (nI (k / 25 % 4)), .int (nI (k % 25)), .int (rtC (k / 25 % 4)), .int (dnC (k / 25 % 4)), lDead, lDead, lDead, lDead]) ?_ (lC1 (lC1 (lC1 (lC1 (lC1 (lI1 (by simp only [dnC, h41, ↓reduceIte]) rfl)))))) rfl rfl
        refine wp_iload3 (pc' := 52) rfl rfl ?_
        refine wp_iconst (v := nI 5) (pc' := 53) rfl rfl rfl ?_
        first | refine wp_iremN (pc' := 54) rfl (by with_reducible rfl) (by with_reducible rfl) (by omega) (by omega) (by omega) rfl ?_ | refine wp_irem (pc' := 54) rfl (by decide) rfl ?_
        refine wp_iload4 (pc' := 56) rfl rfl ?_
        refine wp_iload1 (pc' := 57) rfl rfl ?_
        refine wp_iconst (v := nI 1) (pc' := 58) rfl rfl rfl ?_
        first | refine wp_isubN (pc' := 59) rfl (by with_reducible rfl) (by with_reducible rfl) (by omega) rfl ?_ | refine wp_isub (pc' := 59) rfl rfl ?_
        first | refine wp_imulN (pc' := 60) rfl (by with_reducible rfl) (by with_reducible rfl) rfl ?_ | refine wp_imul (pc' := 60) rfl rfl ?_
        first | refine wp_iaddN (pc' := 61) rfl (by with_reducible rfl) (by with_reducible rfl) rfl ?_ | refine wp_iadd (pc' := 61) rfl rfl ?_
        refine wp_istore6 (pc' := 63) rfl (by first | rfl | assumption) rfl ?_
        refine wp_iload3 (pc' := 64) rfl rfl ?_
        refine wp_iconst (v := nI 5) (pc' := 65) rfl rfl rfl ?_
        first | refine wp_idivN (pc' := 66) rfl (by with_reducible rfl) (by with_reducible rfl) (by omega) (by omega) (by omega) rfl ?_ | refine wp_idiv (pc' := 66) rfl (by decide) rfl ?_
        refine wp_iload5 (pc' := 68) rfl rfl ?_
        refine wp_iload1 (pc' := 69) rfl rfl ?_
        refine wp_iconst (v := nI 1) (pc' := 70) rfl rfl rfl ?_
        first | refine wp_isubN (pc' := 71) rfl (by with_reducible rfl) (by with_reducible rfl) (by omega) rfl ?_ | refine wp_isub (pc' := 71) rfl rfl ?_
        first | refine wp_imulN (pc' := 72) rfl (by with_reducible rfl) (by with_reducible rfl) rfl ?_ | refine wp_imul (pc' := 72) rfl rfl ?_
        first | refine wp_iaddN (pc' := 73) rfl (by with_reducible rfl) (by with_reducible rfl) rfl ?_ | refine wp_iadd (pc' := 73) rfl rfl ?_
        refine wp_istore7 (pc' := 75) rfl (by first | rfl | assumption) rfl ?_
        refine wp_iload6 (pc' := 77) rfl rfl ?_
        refine wp_iflt (pc' := 80) rfl rfl ?_ ?_
        · intro h77
          refine wp_iconst (v := nI 0) (pc' := 93) rfl rfl rfl ?_
          refine wp_iret rfl rfl rfl ?_
          exact Qv kk (by unfold cellC; first | rw [if_pos (show lxC k < nI 0 from h77)] | rw [if_neg (show ¬ lxC k < nI 0 from h77), if_pos (show ¬ lxC k < nI 5 from h83)] | rw [if_neg (show ¬ lxC k < nI 0 from h77), if_neg (fun q : ¬ lxC k < nI 5 => q h83), if_pos (show ¬ lyC k < nI 5 from h89)]) rfl
        · intro h77
          refine wp_iload6 (pc' := 82) rfl rfl ?_
          refine wp_iconst (v := nI 5) (pc' := 83) rfl rfl rfl ?_
          refine wp_icmpge (pc' := 86) rfl rfl ?_ ?_
          · intro h83
            refine wp_iconst (v := nI 0) (pc' := 93) rfl rfl rfl ?_
            refine wp_iret rfl rfl rfl ?_
            exact Qv kk (by unfold cellC; first | rw [if_pos (show lxC k < nI 0 from h77)] | rw [if_neg (show ¬ lxC k < nI 0 from h77), if_pos (show ¬ lxC k < nI 5 from h83)] | rw [if_neg (show ¬ lxC k < nI 0 from h77), if_neg (fun q : ¬ lxC k < nI 5 => q h83), if_pos (show ¬ lyC k < nI 5 from h89)]) rfl
          · intro h83
            refine wp_iload7 (pc' := 88) rfl rfl ?_
            refine wp_iconst (v := nI 5) (pc' := 89) rfl rfl rfl ?_
            refine wp_icmplt (pc' := 92) rfl rfl ?_ ?_
            · intro h89
              refine wp_iconst (v := nI 0) (pc' := 95) rfl rfl rfl ?_
              refine wp_istore8 (pc' := 97) rfl (by first | rfl | assumption) rfl ?_
              refine wp_iconst (v := nI 0) (pc' := 98) rfl rfl rfl ?_
              refine wp_istore9 (pc' := 100) rfl (by first | rfl | assumption) rfl ?_
              have lp100 : ∀ r (i : Nat), i + r = k / 100 + 2 → WP d F_155 100 [.int (nI k), .int (nI (k / 100 + 2)), .int (nI (k / 25 % 4)), .int (nI (k % 25)), .int (rtC (k / 25 % 4)), .int (dnC (k / 25 % 4)), .int (lxC k), .int (lyC k), .int (tkN k i), .int (nI i)] [] (K, I, L, R, n, s) Q := by
                intro r; induction r with
                | zero =>
                  intro i hi 
                  have hi2 : i = k / 100 + 2 := by omega
                  rw [hi2]
                  refine wp_iload9 (pc' := 102) rfl rfl ?_
                  refine wp_iload1 (pc' := 103) rfl rfl ?_
                  refine wp_icmpgeT rfl (nI_nlt (by omega) (by omega)) ?_
                  refine wp_iload8 (pc' := 133) rfl rfl ?_
                  refine wp_iret rfl rfl rfl ?_
                  exact Qv kk (by unfold cellC; rw [if_neg (show ¬ lxC k < nI 0 from h77), if_neg (fun q : ¬ lxC k < nI 5 => q h83), if_neg (fun q : ¬ lyC k < nI 5 => q h89)]) rfl
                | succ r ih =>
                  intro i hi 
                  have hlt : i < k / 100 + 2 := by omega
                  refine wp_iload9 (pc' := 102) rfl rfl ?_
                  refine wp_iload1 (pc' := 103) rfl rfl ?_
                  refine wp_icmpgeF (pc' := 106) rfl (nI_lt (by omega) (by omega)) rfl ?_
                  refine wp_iload8 (pc' := 108) rfl rfl ?_
                  refine wp_iconst (v := nI 1) (pc' := 109) rfl rfl rfl ?_
                  refine wp_iload3 (pc' := 110) rfl rfl ?_
                  refine wp_iload9 (pc' := 112) rfl rfl ?_
                  refine wp_iload4 (pc' := 114) rfl rfl ?_
                  refine wp_iconst (v := nI 5) (pc' := 115) rfl rfl rfl ?_
                  refine wp_iload5 (pc' := 117) rfl rfl ?_
                  first | refine wp_imulN (pc' := 118) rfl (by with_reducible rfl) (by with_reducible rfl) rfl ?_ | refine wp_imul (pc' := 118) rfl rfl ?_
                  first | refine wp_iaddN (pc' := 119) rfl (by with_reducible rfl) (by with_reducible rfl) rfl ?_ | refine wp_iadd (pc' := 119) rfl rfl ?_
                  first | refine wp_imulN (pc' := 120) rfl (by with_reducible rfl) (by with_reducible rfl) rfl ?_ | refine wp_imul (pc' := 120) rfl rfl ?_
                  first | refine wp_iaddN (pc' := 121) rfl (by with_reducible rfl) (by with_reducible rfl) rfl ?_ | refine wp_iadd (pc' := 121) rfl rfl ?_
                  refine wp_ishl (pc' := 122) rfl rfl ?_
                  refine wp_ior (pc' := 123) rfl rfl ?_
                  refine wp_istore8 (pc' := 125) rfl (by first | rfl | assumption) rfl ?_
                  first | refine wp_iinc9 (w := nI 1) (pc' := 128) rfl rfl rfl (by with_reducible exact nI_add _ _) rfl ?_ | refine wp_iinc9 (w := nI 1) (pc' := 128) rfl rfl rfl rfl rfl ?_
                  refine wp_goto rfl ?_
                  exact WP.cg (ih (i + 1) (by omega)) (lI1 (by rfl) (lI1 (by rfl) (lI1 (by rfl) (lI1 (by rfl) (lI1 (by rfl) (lI1 (by rfl) (lI1 (by rfl) (lI1 (by rfl) (lI1 (by rfl) (lI1 (by rfl) rfl)))))))))) rfl (by first | with_reducible rfl | (simp only [forN, *, ↓reduceIte, not_true_eq_false, not_false_eq_true, and_self, and_true, true_and, and_false, false_and]; done) | rfl | (simp_all [forN]; done))
              exact WP.cg (lp100 (k / 100 + 2 - (0)) (0) (by omega)) (lI1 (by rfl) (lI1 (by rfl) (lI1 (by rfl) (lI1 (by rfl) (lI1 (by rfl) (lI1 (by rfl) (lI1 (by rfl) (lI1 (by rfl) (lI1 (by rfl) (lI1 (by rfl) rfl)))))))))) rfl (by first | with_reducible rfl | (simp only [forN, *, ↓reduceIte, not_true_eq_false, not_false_eq_true, and_self, and_true, true_and, and_false, false_and]; done) | rfl | (simp_all [forN]; done))
            · intro h89
              refine wp_iconst (v := nI 0) (pc' := 93) rfl rfl rfl ?_
              refine wp_iret rfl rfl rfl ?_
              exact Qv kk (by unfold cellC; first | rw [if_pos (show lxC k < nI 0 from h77)] | rw [if_neg (show ¬ lxC k < nI 0 from h77), if_pos (show ¬ lxC k < nI 5 from h83)] | rw [if_neg (show ¬ lxC k < nI 0 from h77), if_neg (fun q : ¬ lxC k < nI 5 => q h83), if_pos (show ¬ lyC k < nI 5 from h89)]) rfl
      · intro h41
        refine wp_iconst (v := nI 0) (pc' := 45) rfl rfl rfl ?_
        refine wp_goto rfl ?_
        refine wp_istore5 (pc' := 51) rfl (by first | rfl | assumption) rfl ?_
        refine WP.cg (ls' := [.int (nI k), .int (nI (k / 100 + 2)), .int (nI (k / 25 % 4)), .int (nI (k % 25)), .int (rtC (k / 25 % 4)), .int (dnC (k / 25 % 4)), lDead, lDead, lDead, lDead]) ?_ (lC1 (lC1 (lC1 (lC1 (lC1 (lI1 (by simp only [dnC, h41, ↓reduceIte]) rfl)))))) rfl rfl
        refine wp_iload3 (pc' := 52) rfl rfl ?_
        refine wp_iconst (v := nI 5) (pc' := 53) rfl rfl rfl ?_
        first | refine wp_iremN (pc' := 54) rfl (by with_reducible rfl) (by with_reducible rfl) (by omega) (by omega) (by omega) rfl ?_ | refine wp_irem (pc' := 54) rfl (by decide) rfl ?_
        refine wp_iload4 (pc' := 56) rfl rfl ?_
        refine wp_iload1 (pc' := 57) rfl rfl ?_
        refine wp_iconst (v := nI 1) (pc' := 58) rfl rfl rfl ?_
        first | refine wp_isubN (pc' := 59) rfl (by with_reducible rfl) (by with_reducible rfl) (by omega) rfl ?_ | refine wp_isub (pc' := 59) rfl rfl ?_
        first | refine wp_imulN (pc' := 60) rfl (by with_reducible rfl) (by with_reducible rfl) rfl ?_ | refine wp_imul (pc' := 60) rfl rfl ?_
        first | refine wp_iaddN (pc' := 61) rfl (by with_reducible rfl) (by with_reducible rfl) rfl ?_ | refine wp_iadd (pc' := 61) rfl rfl ?_
        refine wp_istore6 (pc' := 63) rfl (by first | rfl | assumption) rfl ?_
        refine wp_iload3 (pc' := 64) rfl rfl ?_
        refine wp_iconst (v := nI 5) (pc' := 65) rfl rfl rfl ?_
        first | refine wp_idivN (pc' := 66) rfl (by with_reducible rfl) (by with_reducible rfl) (by omega) (by omega) (by omega) rfl ?_ | refine wp_idiv (pc' := 66) rfl (by decide) rfl ?_
        refine wp_iload5 (pc' := 68) rfl rfl ?_
        refine wp_iload1 (pc' := 69) rfl rfl ?_
        refine wp_iconst (v := nI 1) (pc' := 70) rfl rfl rfl ?_
        first | refine wp_isubN (pc' := 71) rfl (by with_reducible rfl) (by with_reducible rfl) (by omega) rfl ?_ | refine wp_isub (pc' := 71) rfl rfl ?_
        first | refine wp_imulN (pc' := 72) rfl (by with_reducible rfl) (by with_reducible rfl) rfl ?_ | refine wp_imul (pc' := 72) rfl rfl ?_
        first | refine wp_iaddN (pc' := 73) rfl (by with_reducible rfl) (by with_reducible rfl) rfl ?_ | refine wp_iadd (pc' := 73) rfl rfl ?_
        refine wp_istore7 (pc' := 75) rfl (by first | rfl | assumption) rfl ?_
        refine wp_iload6 (pc' := 77) rfl rfl ?_
        refine wp_iflt (pc' := 80) rfl rfl ?_ ?_
        · intro h77
          refine wp_iconst (v := nI 0) (pc' := 93) rfl rfl rfl ?_
          refine wp_iret rfl rfl rfl ?_
          exact Qv kk (by unfold cellC; first | rw [if_pos (show lxC k < nI 0 from h77)] | rw [if_neg (show ¬ lxC k < nI 0 from h77), if_pos (show ¬ lxC k < nI 5 from h83)] | rw [if_neg (show ¬ lxC k < nI 0 from h77), if_neg (fun q : ¬ lxC k < nI 5 => q h83), if_pos (show ¬ lyC k < nI 5 from h89)]) rfl
        · intro h77
          refine wp_iload6 (pc' := 82) rfl rfl ?_
          refine wp_iconst (v := nI 5) (pc' := 83) rfl rfl rfl ?_
          refine wp_icmpge (pc' := 86) rfl rfl ?_ ?_
          · intro h83
            refine wp_iconst (v := nI 0) (pc' := 93) rfl rfl rfl ?_
            refine wp_iret rfl rfl rfl ?_
            exact Qv kk (by unfold cellC; first | rw [if_pos (show lxC k < nI 0 from h77)] | rw [if_neg (show ¬ lxC k < nI 0 from h77), if_pos (show ¬ lxC k < nI 5 from h83)] | rw [if_neg (show ¬ lxC k < nI 0 from h77), if_neg (fun q : ¬ lxC k < nI 5 => q h83), if_pos (show ¬ lyC k < nI 5 from h89)]) rfl
          · intro h83
            refine wp_iload7 (pc' := 88) rfl rfl ?_
            refine wp_iconst (v := nI 5) (pc' := 89) rfl rfl rfl ?_
            refine wp_icmplt (pc' := 92) rfl rfl ?_ ?_
            · intro h89
              refine wp_iconst (v := nI 0) (pc' := 95) rfl rfl rfl ?_
              refine wp_istore8 (pc' := 97) rfl (by first | rfl | assumption) rfl ?_
              refine wp_iconst (v := nI 0) (pc' := 98) rfl rfl rfl ?_
              refine wp_istore9 (pc' := 100) rfl (by first | rfl | assumption) rfl ?_
              have lp100 : ∀ r (i : Nat), i + r = k / 100 + 2 → WP d F_155 100 [.int (nI k), .int (nI (k / 100 + 2)), .int (nI (k / 25 % 4)), .int (nI (k % 25)), .int (rtC (k / 25 % 4)), .int (dnC (k / 25 % 4)), .int (lxC k), .int (lyC k), .int (tkN k i), .int (nI i)] [] (K, I, L, R, n, s) Q := by
                intro r; induction r with
                | zero =>
                  intro i hi 
                  have hi2 : i = k / 100 + 2 := by omega
                  rw [hi2]
                  refine wp_iload9 (pc' := 102) rfl rfl ?_
                  refine wp_iload1 (pc' := 103) rfl rfl ?_
                  refine wp_icmpgeT rfl (nI_nlt (by omega) (by omega)) ?_
                  refine wp_iload8 (pc' := 133) rfl rfl ?_
                  refine wp_iret rfl rfl rfl ?_
                  exact Qv kk (by unfold cellC; rw [if_neg (show ¬ lxC k < nI 0 from h77), if_neg (fun q : ¬ lxC k < nI 5 => q h83), if_neg (fun q : ¬ lyC k < nI 5 => q h89)]) rfl
                | succ r ih =>
                  intro i hi 
                  have hlt : i < k / 100 + 2 := by omega
                  refine wp_iload9 (pc' := 102) rfl rfl ?_
                  refine wp_iload1 (pc' := 103) rfl rfl ?_
                  refine wp_icmpgeF (pc' := 106) rfl (nI_lt (by omega) (by omega)) rfl ?_
                  refine wp_iload8 (pc' := 108) rfl rfl ?_
                  refine wp_iconst (v := nI 1) (pc' := 109) rfl rfl rfl ?_
                  refine wp_iload3 (pc' := 110) rfl rfl ?_
                  refine wp_iload9 (pc' := 112) rfl rfl ?_
                  refine wp_iload4 (pc' := 114) rfl rfl ?_
                  refine wp_iconst (v := nI 5) (pc' := 115) rfl rfl rfl ?_
                  refine wp_iload5 (pc' := 117) rfl rfl ?_
                  first | refine wp_imulN (pc' := 118) rfl (by with_reducible rfl) (by with_reducible rfl) rfl ?_ | refine wp_imul (pc' := 118) rfl rfl ?_
                  first | refine wp_iaddN (pc' := 119) rfl (by with_reducible rfl) (by with_reducible rfl) rfl ?_ | refine wp_iadd (pc' := 119) rfl rfl ?_
                  first | refine wp_imulN (pc' := 120) rfl (by with_reducible rfl) (by with_reducible rfl) rfl ?_ | refine wp_imul (pc' := 120) rfl rfl ?_
                  first | refine wp_iaddN (pc' := 121) rfl (by with_reducible rfl) (by with_reducible rfl) rfl ?_ | refine wp_iadd (pc' := 121) rfl rfl ?_
                  refine wp_ishl (pc' := 122) rfl rfl ?_
                  refine wp_ior (pc' := 123) rfl rfl ?_
                  refine wp_istore8 (pc' := 125) rfl (by first | rfl | assumption) rfl ?_
                  first | refine wp_iinc9 (w := nI 1) (pc' := 128) rfl rfl rfl (by with_reducible exact nI_add _ _) rfl ?_ | refine wp_iinc9 (w := nI 1) (pc' := 128) rfl rfl rfl rfl rfl ?_
                  refine wp_goto rfl ?_
                  exact WP.cg (ih (i + 1) (by omega)) (lI1 (by rfl) (lI1 (by rfl) (lI1 (by rfl) (lI1 (by rfl) (lI1 (by rfl) (lI1 (by rfl) (lI1 (by rfl) (lI1 (by rfl) (lI1 (by rfl) (lI1 (by rfl) rfl)))))))))) rfl (by first | with_reducible rfl | (simp only [forN, *, ↓reduceIte, not_true_eq_false, not_false_eq_true, and_self, and_true, true_and, and_false, false_and]; done) | rfl | (simp_all [forN]; done))
              exact WP.cg (lp100 (k / 100 + 2 - (0)) (0) (by omega)) (lI1 (by rfl) (lI1 (by rfl) (lI1 (by rfl) (lI1 (by rfl) (lI1 (by rfl) (lI1 (by rfl) (lI1 (by rfl) (lI1 (by rfl) (lI1 (by rfl) (lI1 (by rfl) rfl)))))))))) rfl (by first | with_reducible rfl | (simp only [forN, *, ↓reduceIte, not_true_eq_false, not_false_eq_true, and_self, and_true, true_and, and_false, false_and]; done) | rfl | (simp_all [forN]; done))
            · intro h89
              refine wp_iconst (v := nI 0) (pc' := 93) rfl rfl rfl ?_
              refine wp_iret rfl rfl rfl ?_
              exact Qv kk (by unfold cellC; first | rw [if_pos (show lxC k < nI 0 from h77)] | rw [if_neg (show ¬ lxC k < nI 0 from h77), if_pos (show ¬ lxC k < nI 5 from h83)] | rw [if_neg (show ¬ lxC k < nI 0 from h77), if_neg (fun q : ¬ lxC k < nI 5 => q h83), if_pos (show ¬ lyC k < nI 5 from h89)]) rfl
    · intro h30
      refine wp_iconst (v := (-1)) (pc' := 34) rfl rfl rfl ?_
      refine wp_goto rfl ?_
      refine wp_istore4 (pc' := 40) rfl (by first | rfl | assumption) rfl ?_
      refine WP.cg (ls' := [.int (nI k), .int (nI (k / 100 + 2)), .int (nI (k / 25 % 4)), .int (nI (k % 25)), .int (rtC (k / 25 % 4)), lDead, lDead, lDead, lDead, lDead]) ?_ (lC1 (lC1 (lC1 (lC1 (lI1 (by first | rw [rtC, if_pos h21] | rw [rtC, if_neg h21, if_pos h30] | rw [rtC, if_neg h21, if_neg h30]) rfl))))) rfl rfl
      refine wp_iload2 (pc' := 41) rfl rfl ?_
      first | refine wp_ifneB (pc' := 44) rfl rfl ?_ ?_ | refine wp_ifne (pc' := 44) rfl rfl ?_ ?_
      · intro h41
        refine wp_iconst (v := nI 1) (pc' := 49) rfl rfl rfl ?_
        refine wp_istore5 (pc' := 51) rfl (by first | rfl | assumption) rfl ?_
        refine WP.cg (ls' := [.int (nI k), .int (nI (k / 100 + 2)), .int (nI (k / 25 % 4)), .int (nI (k % 25)), .int (rtC (k / 25 % 4)), .int (dnC (k / 25 % 4)), lDead, lDead, lDead, lDead]) ?_ (lC1 (lC1 (lC1 (lC1 (lC1 (lI1 (by simp only [dnC, h41, ↓reduceIte]) rfl)))))) rfl rfl
        refine wp_iload3 (pc' := 52) rfl rfl ?_
        refine wp_iconst (v := nI 5) (pc' := 53) rfl rfl rfl ?_
        first | refine wp_iremN (pc' := 54) rfl (by with_reducible rfl) (by with_reducible rfl) (by omega) (by omega) (by omega) rfl ?_ | refine wp_irem (pc' := 54) rfl (by decide) rfl ?_
        refine wp_iload4 (pc' := 56) rfl rfl ?_
        refine wp_iload1 (pc' := 57) rfl rfl ?_
        refine wp_iconst (v := nI 1) (pc' := 58) rfl rfl rfl ?_
        first | refine wp_isubN (pc' := 59) rfl (by with_reducible rfl) (by with_reducible rfl) (by omega) rfl ?_ | refine wp_isub (pc' := 59) rfl rfl ?_
        first | refine wp_imulN (pc' := 60) rfl (by with_reducible rfl) (by with_reducible rfl) rfl ?_ | refine wp_imul (pc' := 60) rfl rfl ?_
        first | refine wp_iaddN (pc' := 61) rfl (by with_reducible rfl) (by with_reducible rfl) rfl ?_ | refine wp_iadd (pc' := 61) rfl rfl ?_
        refine wp_istore6 (pc' := 63) rfl (by first | rfl | assumption) rfl ?_
        refine wp_iload3 (pc' := 64) rfl rfl ?_
        refine wp_iconst (v := nI 5) (pc' := 65) rfl rfl rfl ?_
        first | refine wp_idivN (pc' := 66) rfl (by with_reducible rfl) (by with_reducible rfl) (by omega) (by omega) (by omega) rfl ?_ | refine wp_idiv (pc' := 66) rfl (by decide) rfl ?_
        refine wp_iload5 (pc' := 68) rfl rfl ?_
        refine wp_iload1 (pc' := 69) rfl rfl ?_
        refine wp_iconst (v := nI 1) (pc' := 70) rfl rfl rfl ?_
        first | refine wp_isubN (pc' := 71) rfl (by with_reducible rfl) (by with_reducible rfl) (by omega) rfl ?_ | refine wp_isub (pc' := 71) rfl rfl ?_
        first | refine wp_imulN (pc' := 72) rfl (by with_reducible rfl) (by with_reducible rfl) rfl ?_ | refine wp_imul (pc' := 72) rfl rfl ?_
        first | refine wp_iaddN (pc' := 73) rfl (by with_reducible rfl) (by with_reducible rfl) rfl ?_ | refine wp_iadd (pc' := 73) rfl rfl ?_
        refine wp_istore7 (pc' := 75) rfl (by first | rfl | assumption) rfl ?_
        refine wp_iload6 (pc' := 77) rfl rfl ?_
        refine wp_iflt (pc' := 80) rfl rfl ?_ ?_
        · intro h77
          refine wp_iconst (v := nI 0) (pc' := 93) rfl rfl rfl ?_
          refine wp_iret rfl rfl rfl ?_
          exact Qv kk (by unfold cellC; first | rw [if_pos (show lxC k < nI 0 from h77)] | rw [if_neg (show ¬ lxC k < nI 0 from h77), if_pos (show ¬ lxC k < nI 5 from h83)] | rw [if_neg (show ¬ lxC k < nI 0 from h77), if_neg (fun q : ¬ lxC k < nI 5 => q h83), if_pos (show ¬ lyC k < nI 5 from h89)]) rfl
        · intro h77
          refine wp_iload6 (pc' := 82) rfl rfl ?_
          refine wp_iconst (v := nI 5) (pc' := 83) rfl rfl rfl ?_
          refine wp_icmpge (pc' := 86) rfl rfl ?_ ?_
          · intro h83
            refine wp_iconst (v := nI 0) (pc' := 93) rfl rfl rfl ?_
            refine wp_iret rfl rfl rfl ?_
            exact Qv kk (by unfold cellC; first | rw [if_pos (show lxC k < nI 0 from h77)] | rw [if_neg (show ¬ lxC k < nI 0 from h77), if_pos (show ¬ lxC k < nI 5 from h83)] | rw [if_neg (show ¬ lxC k < nI 0 from h77), if_neg (fun q : ¬ lxC k < nI 5 => q h83), if_pos (show ¬ lyC k < nI 5 from h89)]) rfl
          · intro h83
            refine wp_iload7 (pc' := 88) rfl rfl ?_
            refine wp_iconst (v := nI 5) (pc' := 89) rfl rfl rfl ?_
            refine wp_icmplt (pc' := 92) rfl rfl ?_ ?_
            · intro h89
              refine wp_iconst (v := nI 0) (pc' := 95) rfl rfl rfl ?_
              refine wp_istore8 (pc' := 97) rfl (by first | rfl | assumption) rfl ?_
              refine wp_iconst (v := nI 0) (pc' := 98) rfl rfl rfl ?_
              refine wp_istore9 (pc' := 100) rfl (by first | rfl | assumption) rfl ?_
              have lp100 : ∀ r (i : Nat), i + r = k / 100 + 2 → WP d F_155 100 [.int (nI k), .int (nI (k / 100 + 2)), .int (nI (k / 25 % 4)), .int (nI (k % 25)), .int (rtC (k / 25 % 4)), .int (dnC (k / 25 % 4)), .int (lxC k), .int (lyC k), .int (tkN k i), .int (nI i)] [] (K, I, L, R, n, s) Q := by
                intro r; induction r with
                | zero =>
                  intro i hi 
                  have hi2 : i = k / 100 + 2 := by omega
                  rw [hi2]
                  refine wp_iload9 (pc' := 102) rfl rfl ?_
                  refine wp_iload1 (pc' := 103) rfl rfl ?_
                  refine wp_icmpgeT rfl (nI_nlt (by omega) (by omega)) ?_
                  refine wp_iload8 (pc' := 133) rfl rfl ?_
                  refine wp_iret rfl rfl rfl ?_
                  exact Qv kk (by unfold cellC; rw [if_neg (show ¬ lxC k < nI 0 from h77), if_neg (fun q : ¬ lxC k < nI 5 => q h83), if_neg (fun q : ¬ lyC k < nI 5 => q h89)]) rfl
                | succ r ih =>
                  intro i hi 
                  have hlt : i < k / 100 + 2 := by omega
                  refine wp_iload9 (pc' := 102) rfl rfl ?_
                  refine wp_iload1 (pc' := 103) rfl rfl ?_
                  refine wp_icmpgeF (pc' := 106) rfl (nI_lt (by omega) (by omega)) rfl ?_
                  refine wp_iload8 (pc' := 108) rfl rfl ?_
                  refine wp_iconst (v := nI 1) (pc' := 109) rfl rfl rfl ?_
                  refine wp_iload3 (pc' := 110) rfl rfl ?_
                  refine wp_iload9 (pc' := 112) rfl rfl ?_
                  refine wp_iload4 (pc' := 114) rfl rfl ?_
                  refine wp_iconst (v := nI 5) (pc' := 115) rfl rfl rfl ?_
                  refine wp_iload5 (pc' := 117) rfl rfl ?_
                  first | refine wp_imulN (pc' := 118) rfl (by with_reducible rfl) (by with_reducible rfl) rfl ?_ | refine wp_imul (pc' := 118) rfl rfl ?_
                  first | refine wp_iaddN (pc' := 119) rfl (by with_reducible rfl) (by with_reducible rfl) rfl ?_ | refine wp_iadd (pc' := 119) rfl rfl ?_
                  first | refine wp_imulN (pc' := 120) rfl (by with_reducible rfl) (by with_reducible rfl) rfl ?_ | refine wp_imul (pc' := 120) rfl rfl ?_
                  first | refine wp_iaddN (pc' := 121) rfl (by with_reducible rfl) (by with_reducible rfl) rfl ?_ | refine wp_iadd (pc' := 121) rfl rfl ?_
                  refine wp_ishl (pc' := 122) rfl rfl ?_
                  refine wp_ior (pc' := 123) rfl rfl ?_
                  refine wp_istore8 (pc' := 125) rfl (by first | rfl | assumption) rfl ?_
                  first | refine wp_iinc9 (w := nI 1) (pc' := 128) rfl rfl rfl (by with_reducible exact nI_add _ _) rfl ?_ | refine wp_iinc9 (w := nI 1) (pc' := 128) rfl rfl rfl rfl rfl ?_
                  refine wp_goto rfl ?_
                  exact WP.cg (ih (i + 1) (by omega)) (lI1 (by rfl) (lI1 (by rfl) (lI1 (by rfl) (lI1 (by rfl) (lI1 (by rfl) (lI1 (by rfl) (lI1 (by rfl) (lI1 (by rfl) (lI1 (by rfl) (lI1 (by rfl) rfl)))))))))) rfl (by first | with_reducible rfl | (simp only [forN, *, ↓reduceIte, not_true_eq_false, not_false_eq_true, and_self, and_true, true_and, and_false, false_and]; done) | rfl | (simp_all [forN]; done))
              exact WP.cg (lp100 (k / 100 + 2 - (0)) (0) (by omega)) (lI1 (by rfl) (lI1 (by rfl) (lI1 (by rfl) (lI1 (by rfl) (lI1 (by rfl) (lI1 (by rfl) (lI1 (by rfl) (lI1 (by rfl) (lI1 (by rfl) (lI1 (by rfl) rfl)))))))))) rfl (by first | with_reducible rfl | (simp only [forN, *, ↓reduceIte, not_true_eq_false, not_false_eq_true, and_self, and_true, true_and, and_false, false_and]; done) | rfl | (simp_all [forN]; done))
            · intro h89
              refine wp_iconst (v := nI 0) (pc' := 93) rfl rfl rfl ?_
              refine wp_iret rfl rfl rfl ?_
              exact Qv kk (by unfold cellC; first | rw [if_pos (show lxC k < nI 0 from h77)] | rw [if_neg (show ¬ lxC k < nI 0 from h77), if_pos (show ¬ lxC k < nI 5 from h83)] | rw [if_neg (show ¬ lxC k < nI 0 from h77), if_neg (fun q : ¬ lxC k < nI 5 => q h83), if_pos (show ¬ lyC k < nI 5 from h89)]) rfl
      · intro h41
        refine wp_iconst (v := nI 0) (pc' := 45) rfl rfl rfl ?_
        refine wp_goto rfl ?_
        refine wp_istore5 (pc' := 51) rfl (by first | rfl | assumption) rfl ?_
        refine WP.cg (ls' := [.int (nI k), .int (nI (k / 100 + 2)), .int (nI (k / 25 % 4)), .int (nI (k % 25)), .int (rtC (k / 25 % 4)), .int (dnC (k / 25 % 4)), lDead, lDead, lDead, lDead]) ?_ (lC1 (lC1 (lC1 (lC1 (lC1 (lI1 (by simp only [dnC, h41, ↓reduceIte]) rfl)))))) rfl rfl
        refine wp_iload3 (pc' := 52) rfl rfl ?_
        refine wp_iconst (v := nI 5) (pc' := 53) rfl rfl rfl ?_
        first | refine wp_iremN (pc' := 54) rfl (by with_reducible rfl) (by with_reducible rfl) (by omega) (by omega) (by omega) rfl ?_ | refine wp_irem (pc' := 54) rfl (by decide) rfl ?_
        refine wp_iload4 (pc' := 56) rfl rfl ?_
        refine wp_iload1 (pc' := 57) rfl rfl ?_
        refine wp_iconst (v := nI 1) (pc' := 58) rfl rfl rfl ?_
        first | refine wp_isubN (pc' := 59) rfl (by with_reducible rfl) (by with_reducible rfl) (by omega) rfl ?_ | refine wp_isub (pc' := 59) rfl rfl ?_
        first | refine wp_imulN (pc' := 60) rfl (by with_reducible rfl) (by with_reducible rfl) rfl ?_ | refine wp_imul (pc' := 60) rfl rfl ?_
        first | refine wp_iaddN (pc' := 61) rfl (by with_reducible rfl) (by with_reducible rfl) rfl ?_ | refine wp_iadd (pc' := 61) rfl rfl ?_
        refine wp_istore6 (pc' := 63) rfl (by first | rfl | assumption) rfl ?_
        refine wp_iload3 (pc' := 64) rfl rfl ?_
        refine wp_iconst (v := nI 5) (pc' := 65) rfl rfl rfl ?_
        first | refine wp_idivN (pc' := 66) rfl (by with_reducible rfl) (by with_reducible rfl) (by omega) (by omega) (by omega) rfl ?_ | refine wp_idiv (pc' := 66) rfl (by decide) rfl ?_
        refine wp_iload5 (pc' := 68) rfl rfl ?_
        refine wp_iload1 (pc' := 69) rfl rfl ?_
        refine wp_iconst (v := nI 1) (pc' := 70) rfl rfl rfl ?_
        first | refine wp_isubN (pc' := 71) rfl (by with_reducible rfl) (by with_reducible rfl) (by omega) rfl ?_ | refine wp_isub (pc' := 71) rfl rfl ?_
        first | refine wp_imulN (pc' := 72) rfl (by with_reducible rfl) (by with_reducible rfl) rfl ?_ | refine wp_imul (pc' := 72) rfl rfl ?_
        first | refine wp_iaddN (pc' := 73) rfl (by with_reducible rfl) (by with_reducible rfl) rfl ?_ | refine wp_iadd (pc' := 73) rfl rfl ?_
        refine wp_istore7 (pc' := 75) rfl (by first | rfl | assumption) rfl ?_
        refine wp_iload6 (pc' := 77) rfl rfl ?_
        refine wp_iflt (pc' := 80) rfl rfl ?_ ?_
        · intro h77
          refine wp_iconst (v := nI 0) (pc' := 93) rfl rfl rfl ?_
          refine wp_iret rfl rfl rfl ?_
          exact Qv kk (by unfold cellC; first | rw [if_pos (show lxC k < nI 0 from h77)] | rw [if_neg (show ¬ lxC k < nI 0 from h77), if_pos (show ¬ lxC k < nI 5 from h83)] | rw [if_neg (show ¬ lxC k < nI 0 from h77), if_neg (fun q : ¬ lxC k < nI 5 => q h83), if_pos (show ¬ lyC k < nI 5 from h89)]) rfl
        · intro h77
          refine wp_iload6 (pc' := 82) rfl rfl ?_
          refine wp_iconst (v := nI 5) (pc' := 83) rfl rfl rfl ?_
          refine wp_icmpge (pc' := 86) rfl rfl ?_ ?_
          · intro h83
            refine wp_iconst (v := nI 0) (pc' := 93) rfl rfl rfl ?_
            refine wp_iret rfl rfl rfl ?_
            exact Qv kk (by unfold cellC; first | rw [if_pos (show lxC k < nI 0 from h77)] | rw [if_neg (show ¬ lxC k < nI 0 from h77), if_pos (show ¬ lxC k < nI 5 from h83)] | rw [if_neg (show ¬ lxC k < nI 0 from h77), if_neg (fun q : ¬ lxC k < nI 5 => q h83), if_pos (show ¬ lyC k < nI 5 from h89)]) rfl
          · intro h83
            refine wp_iload7 (pc' := 88) rfl rfl ?_
            refine wp_iconst (v := nI 5) (pc' := 89) rfl rfl rfl ?_
            refine wp_icmplt (pc' := 92) rfl rfl ?_ ?_
            · intro h89
              refine wp_iconst (v := nI 0) (pc' := 95) rfl rfl rfl ?_
              refine wp_istore8 (pc' := 97) rfl (by first | rfl | assumption) rfl ?_
              refine wp_iconst (v := nI 0) (pc' := 98) rfl rfl rfl ?_
              refine wp_istore9 (pc' := 100) rfl (by first | rfl | assumption) rfl ?_
              have lp100 : ∀ r (i : Nat), i + r = k / 100 + 2 → WP d F_155 100 [.int (nI k), .int (nI (k / 100 + 2)), .int (nI (k / 25 % 4)), .int (nI (k % 25)), .int (rtC (k / 25 % 4)), .int (dnC (k / 25 % 4)), .int (lxC k), .int (lyC k), .int (tkN k i), .int (nI i)] [] (K, I, L, R, n, s) Q := by
                intro r; induction r with
                | zero =>
                  intro i hi 
                  have hi2 : i = k / 100 + 2 := by omega
                  rw [hi2]
                  refine wp_iload9 (pc' := 102) rfl rfl ?_
                  refine wp_iload1 (pc' := 103) rfl rfl ?_
                  refine wp_icmpgeT rfl (nI_nlt (by omega) (by omega)) ?_
                  refine wp_iload8 (pc' := 133) rfl rfl ?_
                  refine wp_iret rfl rfl rfl ?_
                  exact Qv kk (by unfold cellC; rw [if_neg (show ¬ lxC k < nI 0 from h77), if_neg (fun q : ¬ lxC k < nI 5 => q h83), if_neg (fun q : ¬ lyC k < nI 5 => q h89)]) rfl
                | succ r ih =>
                  intro i hi 
                  have hlt : i < k / 100 + 2 := by omega
                  refine wp_iload9 (pc' := 102) rfl rfl ?_
                  refine wp_iload1 (pc' := 103) rfl rfl ?_
                  refine wp_icmpgeF (pc' := 106) rfl (nI_lt (by omega) (by omega)) rfl ?_
                  refine wp_iload8 (pc' := 108) rfl rfl ?_
                  refine wp_iconst (v := nI 1) (pc' := 109) rfl rfl rfl ?_
                  refine wp_iload3 (pc' := 110) rfl rfl ?_
                  refine wp_iload9 (pc' := 112) rfl rfl ?_
                  refine wp_iload4 (pc' := 114) rfl rfl ?_
                  refine wp_iconst (v := nI 5) (pc' := 115) rfl rfl rfl ?_
                  refine wp_iload5 (pc' := 117) rfl rfl ?_
                  first | refine wp_imulN (pc' := 118) rfl (by with_reducible rfl) (by with_reducible rfl) rfl ?_ | refine wp_imul (pc' := 118) rfl rfl ?_
                  first | refine wp_iaddN (pc' := 119) rfl (by with_reducible rfl) (by with_reducible rfl) rfl ?_ | refine wp_iadd (pc' := 119) rfl rfl ?_
                  first | refine wp_imulN (pc' := 120) rfl (by with_reducible rfl) (by with_reducible rfl) rfl ?_ | refine wp_imul (pc' := 120) rfl rfl ?_
                  first | refine wp_iaddN (pc' := 121) rfl (by with_reducible rfl) (by with_reducible rfl) rfl ?_ | refine wp_iadd (pc' := 121) rfl rfl ?_
                  refine wp_ishl (pc' := 122) rfl rfl ?_
                  refine wp_ior (pc' := 123) rfl rfl ?_
                  refine wp_istore8 (pc' := 125) rfl (by first | rfl | assumption) rfl ?_
                  first | refine wp_iinc9 (w := nI 1) (pc' := 128) rfl rfl rfl (by with_reducible exact nI_add _ _) rfl ?_ | refine wp_iinc9 (w := nI 1) (pc' := 128) rfl rfl rfl rfl rfl ?_
                  refine wp_goto rfl ?_
                  exact WP.cg (ih (i + 1) (by omega)) (lI1 (by rfl) (lI1 (by rfl) (lI1 (by rfl) (lI1 (by rfl) (lI1 (by rfl) (lI1 (by rfl) (lI1 (by rfl) (lI1 (by rfl) (lI1 (by rfl) (lI1 (by rfl) rfl)))))))))) rfl (by first | with_reducible rfl | (simp only [forN, *, ↓reduceIte, not_true_eq_false, not_false_eq_true, and_self, and_true, true_and, and_false, false_and]; done) | rfl | (simp_all [forN]; done))
              exact WP.cg (lp100 (k / 100 + 2 - (0)) (0) (by omega)) (lI1 (by rfl) (lI1 (by rfl) (lI1 (by rfl) (lI1 (by rfl) (lI1 (by rfl) (lI1 (by rfl) (lI1 (by rfl) (lI1 (by rfl) (lI1 (by rfl) (lI1 (by rfl) rfl)))))))))) rfl (by first | with_reducible rfl | (simp only [forN, *, ↓reduceIte, not_true_eq_false, not_false_eq_true, and_self, and_true, true_and, and_false, false_and]; done) | rfl | (simp_all [forN]; done))
            · intro h89
              refine wp_iconst (v := nI 0) (pc' := 93) rfl rfl rfl ?_
              refine wp_iret rfl rfl rfl ?_
              exact Qv kk (by unfold cellC; first | rw [if_pos (show lxC k < nI 0 from h77)] | rw [if_neg (show ¬ lxC k < nI 0 from h77), if_pos (show ¬ lxC k < nI 5 from h83)] | rw [if_neg (show ¬ lxC k < nI 0 from h77), if_neg (fun q : ¬ lxC k < nI 5 => q h83), if_pos (show ¬ lyC k < nI 5 from h89)]) rfl
  · intro h21
    refine wp_iconst (v := nI 0) (pc' := 25) rfl rfl rfl ?_
    refine wp_goto rfl ?_
    refine wp_istore4 (pc' := 40) rfl (by first | rfl | assumption) rfl ?_
    refine WP.cg (ls' := [.int (nI k), .int (nI (k / 100 + 2)), .int (nI (k / 25 % 4)), .int (nI (k % 25)), .int (rtC (k / 25 % 4)), lDead, lDead, lDead, lDead, lDead]) ?_ (lC1 (lC1 (lC1 (lC1 (lI1 (by first | rw [rtC, if_pos h21] | rw [rtC, if_neg h21, if_pos h30] | rw [rtC, if_neg h21, if_neg h30]) rfl))))) rfl rfl
    refine wp_iload2 (pc' := 41) rfl rfl ?_
    first | refine wp_ifneB (pc' := 44) rfl rfl ?_ ?_ | refine wp_ifne (pc' := 44) rfl rfl ?_ ?_
    · intro h41
      refine wp_iconst (v := nI 1) (pc' := 49) rfl rfl rfl ?_
      refine wp_istore5 (pc' := 51) rfl (by first | rfl | assumption) rfl ?_
      refine WP.cg (ls' := [.int (nI k), .int (nI (k / 100 + 2)), .int (nI (k / 25 % 4)), .int (nI (k % 25)), .int (rtC (k / 25 % 4)), .int (dnC (k / 25 % 4)), lDead, lDead, lDead, lDead]) ?_ (lC1 (lC1 (lC1 (lC1 (lC1 (lI1 (by simp only [dnC, h41, ↓reduceIte]) rfl)))))) rfl rfl
      refine wp_iload3 (pc' := 52) rfl rfl ?_
      refine wp_iconst (v := nI 5) (pc' := 53) rfl rfl rfl ?_
      first | refine wp_iremN (pc' := 54) rfl (by with_reducible rfl) (by with_reducible rfl) (by omega) (by omega) (by omega) rfl ?_ | refine wp_irem (pc' := 54) rfl (by decide) rfl ?_
      refine wp_iload4 (pc' := 56) rfl rfl ?_
      refine wp_iload1 (pc' := 57) rfl rfl ?_
      refine wp_iconst (v := nI 1) (pc' := 58) rfl rfl rfl ?_
      first | refine wp_isubN (pc' := 59) rfl (by with_reducible rfl) (by with_reducible rfl) (by omega) rfl ?_ | refine wp_isub (pc' := 59) rfl rfl ?_
      first | refine wp_imulN (pc' := 60) rfl (by with_reducible rfl) (by with_reducible rfl) rfl ?_ | refine wp_imul (pc' := 60) rfl rfl ?_
      first | refine wp_iaddN (pc' := 61) rfl (by with_reducible rfl) (by with_reducible rfl) rfl ?_ | refine wp_iadd (pc' := 61) rfl rfl ?_
      refine wp_istore6 (pc' := 63) rfl (by first | rfl | assumption) rfl ?_
      refine wp_iload3 (pc' := 64) rfl rfl ?_
      refine wp_iconst (v := nI 5) (pc' := 65) rfl rfl rfl ?_
      first | refine wp_idivN (pc' := 66) rfl (by with_reducible rfl) (by with_reducible rfl) (by omega) (by omega) (by omega) rfl ?_ | refine wp_idiv (pc' := 66) rfl (by decide) rfl ?_
      refine wp_iload5 (pc' := 68) rfl rfl ?_
      refine wp_iload1 (pc' := 69) rfl rfl ?_
      refine wp_iconst (v := nI 1) (pc' := 70) rfl rfl rfl ?_
      first | refine wp_isubN (pc' := 71) rfl (by with_reducible rfl) (by with_reducible rfl) (by omega) rfl ?_ | refine wp_isub (pc' := 71) rfl rfl ?_
      first | refine wp_imulN (pc' := 72) rfl (by with_reducible rfl) (by with_reducible rfl) rfl ?_ | refine wp_imul (pc' := 72) rfl rfl ?_
      first | refine wp_iaddN (pc' := 73) rfl (by with_reducible rfl) (by with_reducible rfl) rfl ?_ | refine wp_iadd (pc' := 73) rfl rfl ?_
      refine wp_istore7 (pc' := 75) rfl (by first | rfl | assumption) rfl ?_
      refine wp_iload6 (pc' := 77) rfl rfl ?_
      refine wp_iflt (pc' := 80) rfl rfl ?_ ?_
      · intro h77
        refine wp_iconst (v := nI 0) (pc' := 93) rfl rfl rfl ?_
        refine wp_iret rfl rfl rfl ?_
        exact Qv kk (by unfold cellC; first | rw [if_pos (show lxC k < nI 0 from h77)] | rw [if_neg (show ¬ lxC k < nI 0 from h77), if_pos (show ¬ lxC k < nI 5 from h83)] | rw [if_neg (show ¬ lxC k < nI 0 from h77), if_neg (fun q : ¬ lxC k < nI 5 => q h83), if_pos (show ¬ lyC k < nI 5 from h89)]) rfl
      · intro h77
        refine wp_iload6 (pc' := 82) rfl rfl ?_
        refine wp_iconst (v := nI 5) (pc' := 83) rfl rfl rfl ?_
        refine wp_icmpge (pc' := 86) rfl rfl ?_ ?_
        · intro h83
          refine wp_iconst (v := nI 0) (pc' := 93) rfl rfl rfl ?_
          refine wp_iret rfl rfl rfl ?_
          exact Qv kk (by unfold cellC; first | rw [if_pos (show lxC k < nI 0 from h77)] | rw [if_neg (show ¬ lxC k < nI 0 from h77), if_pos (show ¬ lxC k < nI 5 from h83)] | rw [if_neg (show ¬ lxC k < nI 0 from h77), if_neg (fun q : ¬ lxC k < nI 5 => q h83), if_pos (show ¬ lyC k < nI 5 from h89)]) rfl
        · intro h83
          refine wp_iload7 (pc' := 88) rfl rfl ?_
          refine wp_iconst (v := nI 5) (pc' := 89) rfl rfl rfl ?_
          refine wp_icmplt (pc' := 92) rfl rfl ?_ ?_
          · intro h89
            refine wp_iconst (v := nI 0) (pc' := 95) rfl rfl rfl ?_
            refine wp_istore8 (pc' := 97) rfl (by first | rfl | assumption) rfl ?_
            refine wp_iconst (v := nI 0) (pc' := 98) rfl rfl rfl ?_
            refine wp_istore9 (pc' := 100) rfl (by first | rfl | assumption) rfl ?_
            have lp100 : ∀ r (i : Nat), i + r = k / 100 + 2 → WP d F_155 100 [.int (nI k), .int (nI (k / 100 + 2)), .int (nI (k / 25 % 4)), .int (nI (k % 25)), .int (rtC (k / 25 % 4)), .int (dnC (k / 25 % 4)), .int (lxC k), .int (lyC k), .int (tkN k i), .int (nI i)] [] (K, I, L, R, n, s) Q := by
              intro r; induction r with
              | zero =>
                intro i hi 
                have hi2 : i = k / 100 + 2 := by omega
                rw [hi2]
                refine wp_iload9 (pc' := 102) rfl rfl ?_
                refine wp_iload1 (pc' := 103) rfl rfl ?_
                refine wp_icmpgeT rfl (nI_nlt (by omega) (by omega)) ?_
                refine wp_iload8 (pc' := 133) rfl rfl ?_
                refine wp_iret rfl rfl rfl ?_
                exact Qv kk (by unfold cellC; rw [if_neg (show ¬ lxC k < nI 0 from h77), if_neg (fun q : ¬ lxC k < nI 5 => q h83), if_neg (fun q : ¬ lyC k < nI 5 => q h89)]) rfl
              | succ r ih =>
                intro i hi 
                have hlt : i < k / 100 + 2 := by omega
                refine wp_iload9 (pc' := 102) rfl rfl ?_
                refine wp_iload1 (pc' := 103) rfl rfl ?_
                refine wp_icmpgeF (pc' := 106) rfl (nI_lt (by omega) (by omega)) rfl ?_
                refine wp_iload8 (pc' := 108) rfl rfl ?_
                refine wp_iconst (v := nI 1) (pc' := 109) rfl rfl rfl ?_
                refine wp_iload3 (pc' := 110) rfl rfl ?_
                refine wp_iload9 (pc' := 112) rfl rfl ?_
                refine wp_iload4 (pc' := 114) rfl rfl ?_
                refine wp_iconst (v := nI 5) (pc' := 115) rfl rfl rfl ?_
                refine wp_iload5 (pc' := 117) rfl rfl ?_
                first | refine wp_imulN (pc' := 118) rfl (by with_reducible rfl) (by with_reducible rfl) rfl ?_ | refine wp_imul (pc' := 118) rfl rfl ?_
                first | refine wp_iaddN (pc' := 119) rfl (by with_reducible rfl) (by with_reducible rfl) rfl ?_ | refine wp_iadd (pc' := 119) rfl rfl ?_
                first | refine wp_imulN (pc' := 120) rfl (by with_reducible rfl) (by with_reducible rfl) rfl ?_ | refine wp_imul (pc' := 120) rfl rfl ?_
                first | refine wp_iaddN (pc' := 121) rfl (by with_reducible rfl) (by with_reducible rfl) rfl ?_ | refine wp_iadd (pc' := 121) rfl rfl ?_
                refine wp_ishl (pc' := 122) rfl rfl ?_
                refine wp_ior (pc' := 123) rfl rfl ?_
                refine wp_istore8 (pc' := 125) rfl (by first | rfl | assumption) rfl ?_
                first | refine wp_iinc9 (w := nI 1) (pc' := 128) rfl rfl rfl (by with_reducible exact nI_add _ _) rfl ?_ | refine wp_iinc9 (w := nI 1) (pc' := 128) rfl rfl rfl rfl rfl ?_
                refine wp_goto rfl ?_
                exact WP.cg (ih (i + 1) (by omega)) (lI1 (by rfl) (lI1 (by rfl) (lI1 (by rfl) (lI1 (by rfl) (lI1 (by rfl) (lI1 (by rfl) (lI1 (by rfl) (lI1 (by rfl) (lI1 (by rfl) (lI1 (by rfl) rfl)))))))))) rfl (by first | with_reducible rfl | (simp only [forN, *, ↓reduceIte, not_true_eq_false, not_false_eq_true, and_self, and_true, true_and, and_false, false_and]; done) | rfl | (simp_all [forN]; done))
            exact WP.cg (lp100 (k / 100 + 2 - (0)) (0) (by omega)) (lI1 (by rfl) (lI1 (by rfl) (lI1 (by rfl) (lI1 (by rfl) (lI1 (by rfl) (lI1 (by rfl) (lI1 (by rfl) (lI1 (by rfl) (lI1 (by rfl) (lI1 (by rfl) rfl)))))))))) rfl (by first | with_reducible rfl | (simp only [forN, *, ↓reduceIte, not_true_eq_false, not_false_eq_true, and_self, and_true, true_and, and_false, false_and]; done) | rfl | (simp_all [forN]; done))
          · intro h89
            refine wp_iconst (v := nI 0) (pc' := 93) rfl rfl rfl ?_
            refine wp_iret rfl rfl rfl ?_
            exact Qv kk (by unfold cellC; first | rw [if_pos (show lxC k < nI 0 from h77)] | rw [if_neg (show ¬ lxC k < nI 0 from h77), if_pos (show ¬ lxC k < nI 5 from h83)] | rw [if_neg (show ¬ lxC k < nI 0 from h77), if_neg (fun q : ¬ lxC k < nI 5 => q h83), if_pos (show ¬ lyC k < nI 5 from h89)]) rfl
    · intro h41
      refine wp_iconst (v := nI 0) (pc' := 45) rfl rfl rfl ?_
      refine wp_goto rfl ?_
      refine wp_istore5 (pc' := 51) rfl (by first | rfl | assumption) rfl ?_
      refine WP.cg (ls' := [.int (nI k), .int (nI (k / 100 + 2)), .int (nI (k / 25 % 4)), .int (nI (k % 25)), .int (rtC (k / 25 % 4)), .int (dnC (k / 25 % 4)), lDead, lDead, lDead, lDead]) ?_ (lC1 (lC1 (lC1 (lC1 (lC1 (lI1 (by simp only [dnC, h41, ↓reduceIte]) rfl)))))) rfl rfl
      refine wp_iload3 (pc' := 52) rfl rfl ?_
      refine wp_iconst (v := nI 5) (pc' := 53) rfl rfl rfl ?_
      first | refine wp_iremN (pc' := 54) rfl (by with_reducible rfl) (by with_reducible rfl) (by omega) (by omega) (by omega) rfl ?_ | refine wp_irem (pc' := 54) rfl (by decide) rfl ?_
      refine wp_iload4 (pc' := 56) rfl rfl ?_
      refine wp_iload1 (pc' := 57) rfl rfl ?_
      refine wp_iconst (v := nI 1) (pc' := 58) rfl rfl rfl ?_
      first | refine wp_isubN (pc' := 59) rfl (by with_reducible rfl) (by with_reducible rfl) (by omega) rfl ?_ | refine wp_isub (pc' := 59) rfl rfl ?_
      first | refine wp_imulN (pc' := 60) rfl (by with_reducible rfl) (by with_reducible rfl) rfl ?_ | refine wp_imul (pc' := 60) rfl rfl ?_
      first | refine wp_iaddN (pc' := 61) rfl (by with_reducible rfl) (by with_reducible rfl) rfl ?_ | refine wp_iadd (pc' := 61) rfl rfl ?_
      refine wp_istore6 (pc' := 63) rfl (by first | rfl | assumption) rfl ?_
      refine wp_iload3 (pc' := 64) rfl rfl ?_
      refine wp_iconst (v := nI 5) (pc' := 65) rfl rfl rfl ?_
      first | refine wp_idivN (pc' := 66) rfl (by with_reducible rfl) (by with_reducible rfl) (by omega) (by omega) (by omega) rfl ?_ | refine wp_idiv (pc' := 66) rfl (by decide) rfl ?_
      refine wp_iload5 (pc' := 68) rfl rfl ?_
      refine wp_iload1 (pc' := 69) rfl rfl ?_
      refine wp_iconst (v := nI 1) (pc' := 70) rfl rfl rfl ?_
      first | refine wp_isubN (pc' := 71) rfl (by with_reducible rfl) (by with_reducible rfl) (by omega) rfl ?_ | refine wp_isub (pc' := 71) rfl rfl ?_
      first | refine wp_imulN (pc' := 72) rfl (by with_reducible rfl) (by with_reducible rfl) rfl ?_ | refine wp_imul (pc' := 72) rfl rfl ?_
      first | refine wp_iaddN (pc' := 73) rfl (by with_reducible rfl) (by with_reducible rfl) rfl ?_ | refine wp_iadd (pc' := 73) rfl rfl ?_
      refine wp_istore7 (pc' := 75) rfl (by first | rfl | assumption) rfl ?_
      refine wp_iload6 (pc' := 77) rfl rfl ?_
      refine wp_iflt (pc' := 80) rfl rfl ?_ ?_
      · intro h77
        refine wp_iconst (v := nI 0) (pc' := 93) rfl rfl rfl ?_
        refine wp_iret rfl rfl rfl ?_
        exact Qv kk (by unfold cellC; first | rw [if_pos (show lxC k < nI 0 from h77)] | rw [if_neg (show ¬ lxC k < nI 0 from h77), if_pos (show ¬ lxC k < nI 5 from h83)] | rw [if_neg (show ¬ lxC k < nI 0 from h77), if_neg (fun q : ¬ lxC k < nI 5 => q h83), if_pos (show ¬ lyC k < nI 5 from h89)]) rfl
      · intro h77
        refine wp_iload6 (pc' := 82) rfl rfl ?_
        refine wp_iconst (v := nI 5) (pc' := 83) rfl rfl rfl ?_
        refine wp_icmpge (pc' := 86) rfl rfl ?_ ?_
        · intro h83
          refine wp_iconst (v := nI 0) (pc' := 93) rfl rfl rfl ?_
          refine wp_iret rfl rfl rfl ?_
          exact Qv kk (by unfold cellC; first | rw [if_pos (show lxC k < nI 0 from h77)] | rw [if_neg (show ¬ lxC k < nI 0 from h77), if_pos (show ¬ lxC k < nI 5 from h83)] | rw [if_neg (show ¬ lxC k < nI 0 from h77), if_neg (fun q : ¬ lxC k < nI 5 => q h83), if_pos (show ¬ lyC k < nI 5 from h89)]) rfl
        · intro h83
          refine wp_iload7 (pc' := 88) rfl rfl ?_
          refine wp_iconst (v := nI 5) (pc' := 89) rfl rfl rfl ?_
          refine wp_icmplt (pc' := 92) rfl rfl ?_ ?_
          · intro h89
            refine wp_iconst (v := nI 0) (pc' := 95) rfl rfl rfl ?_
            refine wp_istore8 (pc' := 97) rfl (by first | rfl | assumption) rfl ?_
            refine wp_iconst (v := nI 0) (pc' := 98) rfl rfl rfl ?_
            refine wp_istore9 (pc' := 100) rfl (by first | rfl | assumption) rfl ?_
            have lp100 : ∀ r (i : Nat), i + r = k / 100 + 2 → WP d F_155 100 [.int (nI k), .int (nI (k / 100 + 2)), .int (nI (k / 25 % 4)), .int (nI (k % 25)), .int (rtC (k / 25 % 4)), .int (dnC (k / 25 % 4)), .int (lxC k), .int (lyC k), .int (tkN k i), .int (nI i)] [] (K, I, L, R, n, s) Q := by
              intro r; induction r with
              | zero =>
                intro i hi 
                have hi2 : i = k / 100 + 2 := by omega
                rw [hi2]
                refine wp_iload9 (pc' := 102) rfl rfl ?_
                refine wp_iload1 (pc' := 103) rfl rfl ?_
                refine wp_icmpgeT rfl (nI_nlt (by omega) (by omega)) ?_
                refine wp_iload8 (pc' := 133) rfl rfl ?_
                refine wp_iret rfl rfl rfl ?_
                exact Qv kk (by unfold cellC; rw [if_neg (show ¬ lxC k < nI 0 from h77), if_neg (fun q : ¬ lxC k < nI 5 => q h83), if_neg (fun q : ¬ lyC k < nI 5 => q h89)]) rfl
              | succ r ih =>
                intro i hi 
                have hlt : i < k / 100 + 2 := by omega
                refine wp_iload9 (pc' := 102) rfl rfl ?_
                refine wp_iload1 (pc' := 103) rfl rfl ?_
                refine wp_icmpgeF (pc' := 106) rfl (nI_lt (by omega) (by omega)) rfl ?_
                refine wp_iload8 (pc' := 108) rfl rfl ?_
                refine wp_iconst (v := nI 1) (pc' := 109) rfl rfl rfl ?_
                refine wp_iload3 (pc' := 110) rfl rfl ?_
                refine wp_iload9 (pc' := 112) rfl rfl ?_
                refine wp_iload4 (pc' := 114) rfl rfl ?_
                refine wp_iconst (v := nI 5) (pc' := 115) rfl rfl rfl ?_
                refine wp_iload5 (pc' := 117) rfl rfl ?_
                first | refine wp_imulN (pc' := 118) rfl (by with_reducible rfl) (by with_reducible rfl) rfl ?_ | refine wp_imul (pc' := 118) rfl rfl ?_
                first | refine wp_iaddN (pc' := 119) rfl (by with_reducible rfl) (by with_reducible rfl) rfl ?_ | refine wp_iadd (pc' := 119) rfl rfl ?_
                first | refine wp_imulN (pc' := 120) rfl (by with_reducible rfl) (by with_reducible rfl) rfl ?_ | refine wp_imul (pc' := 120) rfl rfl ?_
                first | refine wp_iaddN (pc' := 121) rfl (by with_reducible rfl) (by with_reducible rfl) rfl ?_ | refine wp_iadd (pc' := 121) rfl rfl ?_
                refine wp_ishl (pc' := 122) rfl rfl ?_
                refine wp_ior (pc' := 123) rfl rfl ?_
                refine wp_istore8 (pc' := 125) rfl (by first | rfl | assumption) rfl ?_
                first | refine wp_iinc9 (w := nI 1) (pc' := 128) rfl rfl rfl (by with_reducible exact nI_add _ _) rfl ?_ | refine wp_iinc9 (w := nI 1) (pc' := 128) rfl rfl rfl rfl rfl ?_
                refine wp_goto rfl ?_
                exact WP.cg (ih (i + 1) (by omega)) (lI1 (by rfl) (lI1 (by rfl) (lI1 (by rfl) (lI1 (by rfl) (lI1 (by rfl) (lI1 (by rfl) (lI1 (by rfl) (lI1 (by rfl) (lI1 (by rfl) (lI1 (by rfl) rfl)))))))))) rfl (by first | with_reducible rfl | (simp only [forN, *, ↓reduceIte, not_true_eq_false, not_false_eq_true, and_self, and_true, true_and, and_false, false_and]; done) | rfl | (simp_all [forN]; done))
            exact WP.cg (lp100 (k / 100 + 2 - (0)) (0) (by omega)) (lI1 (by rfl) (lI1 (by rfl) (lI1 (by rfl) (lI1 (by rfl) (lI1 (by rfl) (lI1 (by rfl) (lI1 (by rfl) (lI1 (by rfl) (lI1 (by rfl) (lI1 (by rfl) rfl)))))))))) rfl (by first | with_reducible rfl | (simp only [forN, *, ↓reduceIte, not_true_eq_false, not_false_eq_true, and_self, and_true, true_and, and_false, false_and]; done) | rfl | (simp_all [forN]; done))
          · intro h89
            refine wp_iconst (v := nI 0) (pc' := 93) rfl rfl rfl ?_
            refine wp_iret rfl rfl rfl ?_
            exact Qv kk (by unfold cellC; first | rw [if_pos (show lxC k < nI 0 from h77)] | rw [if_neg (show ¬ lxC k < nI 0 from h77), if_pos (show ¬ lxC k < nI 5 from h83)] | rw [if_neg (show ¬ lxC k < nI 0 from h77), if_neg (fun q : ¬ lxC k < nI 5 => q h83), if_pos (show ¬ lyC k < nI 5 from h89)]) rfl
theorem c_wrongRows {d : Nat} {K : Nat → Nat × Nat} {I : Nat → Nat → Int32} {L : Nat → Nat → Int64} {R : Nat → Nat → Option Nat} {n s : Nat} {Q : Lo → Lm → Prop} {x : Int32} (hT : TK K R n) (kk : Q (.inl (some (.int (wrC (I 66 2) (I 67) x)))) (K, I, L, R, n, s)) : Ok (d + 1) 156 [.ref 66, .int x] (K, I, L, R, n, s) Q := by
  obtain ⟨-, -, hn⟩ := id hT
  refine Ok.enter (F := F_156) (ls := [.ref 66, .int x, lDead, lDead]) rfl rfl ?_
  refine wp_aload0 (pc' := 1) rfl rfl ?_
  refine wp_getI (pc' := 4) rfl rfl (by first | exact TK.k1 hT rfl | exact TK.kk hT rfl | exact TK.r hT rfl | assumption) rfl ?_
  refine wp_istore2 (pc' := 5) rfl (by first | rfl | assumption) rfl ?_
  refine wp_iconst (v := nI 0) (pc' := 6) rfl rfl rfl ?_
  refine wp_istore3 (pc' := 7) rfl (by first | rfl | assumption) rfl ?_
  have lp7 : ∀ r (i : Nat), i + r = 25 → WP d F_156 7 [.ref 66, .int x, .int (wrN (I 66 2) (I 67) x i), .int (nI i)] [] (K, I, L, R, n, s) Q := by
    intro r; induction r with
    | zero =>
      intro i hi 
      have hi2 : i = 25 := by omega
      subst hi2
      refine wp_iload3 (pc' := 8) rfl rfl ?_
      refine wp_bipush (v := nI 25) (pc' := 10) rfl rfl rfl ?_
      refine wp_icmpgeT rfl (nI_nlt (by omega) (by omega)) ?_
      refine wp_iload1 (pc' := 38) rfl rfl ?_
      first | refine wp_ifneB (pc' := 41) rfl rfl ?_ ?_ | refine wp_ifne (pc' := 41) rfl rfl ?_ ?_
      · intro h38
        refine wp_iload2 (pc' := 46) rfl rfl ?_
        refine wp_iconst (v := nI 2) (pc' := 47) rfl rfl rfl ?_
        refine wp_min (pc' := 50) rfl rfl rfl rfl ?_
        refine wp_iret rfl rfl rfl ?_
        exact Qv kk (by first | rfl | (simp +decide only [wrC, *, ↓reduceIte, and_self, and_true, true_and, and_false, false_and, not_true_eq_false, not_false_eq_true]; done) | (simp_all [wrC]; done)) rfl
      · intro h38
        refine wp_iconst (v := nI 2) (pc' := 42) rfl rfl rfl ?_
        refine wp_goto rfl ?_
        refine wp_iret rfl rfl rfl ?_
        exact Qv kk (by first | rfl | (simp +decide only [wrC, *, ↓reduceIte, and_self, and_true, true_and, and_false, false_and, not_true_eq_false, not_false_eq_true]; done) | (simp_all [wrC]; done)) rfl
    | succ r ih =>
      intro i hi 
      have hlt : i < 25 := by omega
      refine wp_iload3 (pc' := 8) rfl rfl ?_
      refine wp_bipush (v := nI 25) (pc' := 10) rfl rfl rfl ?_
      refine wp_icmpgeF (pc' := 13) rfl (nI_lt (by omega) (by omega)) rfl ?_
      refine wp_iload1 (pc' := 14) rfl rfl ?_
      refine wp_iload3 (pc' := 15) rfl rfl ?_
      refine wp_ishr (pc' := 16) rfl rfl ?_
      refine wp_iconst (v := nI 1) (pc' := 17) rfl rfl rfl ?_
      refine wp_iand (pc' := 18) rfl rfl ?_
      refine wp_iconst (v := nI 1) (pc' := 19) rfl rfl rfl ?_
      refine wp_icmpne (pc' := 22) rfl rfl ?_ ?_
      · intro h19
        first | refine wp_iinc3 (w := nI 1) (pc' := 34) rfl rfl rfl (by with_reducible exact nI_add _ _) rfl ?_ | refine wp_iinc3 (w := nI 1) (pc' := 34) rfl rfl rfl rfl rfl ?_
        refine wp_goto rfl ?_
        exact WP.cg (ih (i + 1) (by omega)) (lC1 (lI1 (by first | with_reducible rfl | (simp only [wrN, forN, hasP, h19, ↓reduceIte]; done)) (lI1 (by first | with_reducible rfl | (simp only [wrN, forN, hasP, h19, ↓reduceIte]; done)) (lI1 (by first | with_reducible rfl | (simp only [wrN, forN, hasP, h19, ↓reduceIte]; done)) rfl)))) rfl (by first | with_reducible rfl | (simp only [forN, *, ↓reduceIte, not_true_eq_false, not_false_eq_true, and_self, and_true, true_and, and_false, false_and]; done) | rfl | (simp_all [forN]; done))
      · intro h19
        refine wp_iload2 (pc' := 23) rfl rfl ?_
        refine wp_aload0 (pc' := 24) rfl rfl ?_
        refine wp_getRF (pc' := 27) rfl rfl (by first | exact TK.k1 hT rfl | exact TK.kk hT rfl | exact TK.r hT rfl | assumption) (by first | exact TK.k1 hT rfl | exact TK.kk hT rfl | exact TK.r hT rfl | assumption) rfl ?_
        refine wp_iload3 (pc' := 28) rfl rfl ?_
        refine wp_iald _ (pc' := 29) rfl (by first | exact TK.k1 hT rfl | exact TK.kk hT rfl | exact TK.r hT rfl | assumption) (by with_reducible rfl) (by omega) (by first | decide | assumption | omega) rfl ?_
        first | refine wp_iaddN (pc' := 30) rfl (by with_reducible rfl) (by with_reducible rfl) rfl ?_ | refine wp_iadd (pc' := 30) rfl rfl ?_
        refine wp_istore2 (pc' := 31) rfl (by first | rfl | assumption) rfl ?_
        first | refine wp_iinc3 (w := nI 1) (pc' := 34) rfl rfl rfl (by with_reducible exact nI_add _ _) rfl ?_ | refine wp_iinc3 (w := nI 1) (pc' := 34) rfl rfl rfl rfl rfl ?_
        refine wp_goto rfl ?_
        exact WP.cg (ih (i + 1) (by omega)) (lC1 (lI1 (by first | with_reducible rfl | (simp only [wrN, forN, hasP, h19, ↓reduceIte]; done)) (lI1 (by first | with_reducible rfl | (simp only [wrN, forN, hasP, h19, ↓reduceIte]; done)) (lI1 (by first | with_reducible rfl | (simp only [wrN, forN, hasP, h19, ↓reduceIte]; done)) rfl)))) rfl (by first | with_reducible rfl | (simp only [forN, *, ↓reduceIte, not_true_eq_false, not_false_eq_true, and_self, and_true, true_and, and_false, false_and]; done) | rfl | (simp_all [forN]; done))
  exact WP.cg (lp7 (25 - (0)) (0) (by omega)) (lC1 (lI1 (by rfl) (lI1 (by rfl) (lI1 (by rfl) rfl)))) rfl (by first | with_reducible rfl | (simp only [forN, *, ↓reduceIte, not_true_eq_false, not_false_eq_true, and_self, and_true, true_and, and_false, false_and]; done) | rfl | (simp_all [forN]; done))
theorem c_tell {d : Nat} {K : Nat → Nat × Nat} {I : Nat → Nat → Int32} {L : Nat → Nat → Int64} {R : Nat → Nat → Option Nat} {n s : Nat} {Q : Lo → Lm → Prop} {k : Nat} {tv : Nat → Nat} (hT : TK K R n) (hk : k ≤ 20) (htv : ∀ j, j < 400 → I 38 j = nI (tv j)) (htl2 : ∀ j, j < k → tv (2 * j) < 25) (kk : Q (.inl none) (K, (upr (up2 I 66 2 (telF tv (fillR 25 (nI 0) (I 67)) k).2) 67 (telF tv (fillR 25 (nI 0) (I 67)) k).1), L, R, n, s)) : Ok (d + 2) 153 [.ref 66, .ref 38, .int (nI k)] (K, I, L, R, n, s) Q := by
  obtain ⟨-, -, hn⟩ := id hT
  refine Ok.enter (F := F_153) (ls := [.ref 66, .ref 38, .int (nI k), lDead, lDead]) rfl rfl ?_
  refine wp_aload0 (pc' := 1) rfl rfl ?_
  refine wp_getRF (pc' := 4) rfl rfl (by first | exact TK.k1 hT rfl | exact TK.kk hT rfl | exact TK.r hT rfl | assumption) (by first | exact TK.k1 hT rfl | exact TK.kk hT rfl | exact TK.r hT rfl | assumption) rfl ?_
  refine wp_iconst (v := nI 0) (pc' := 5) rfl rfl rfl ?_
  refine wp_callS2 (pc' := 8) rfl rfl rfl rfl rfl rfl ?_
  refine c_fill (w := 25) (TK.kk hT rfl) (by decide) (by omega) ?_
  refine Cont.u ?_
  refine wp_aload0 (pc' := 9) rfl rfl ?_
  refine wp_iconst (v := nI 0) (pc' := 10) rfl rfl rfl ?_
  refine wp_putI (pc' := 13) rfl rfl (by first | exact TK.k1 hT rfl | exact TK.kk hT rfl | exact TK.r hT rfl | assumption) (by omega) rfl ?_
  skip
  refine wp_iconst (v := nI 0) (pc' := 14) rfl rfl rfl ?_
  refine wp_istore3 (pc' := 15) rfl (by first | rfl | assumption) rfl ?_
  have lp15 : ∀ r (i : Nat) (v4 : Value), i + r = k → isL v4 = false → WP (d + 1) F_153 15 [.ref 66, .ref 38, .int (nI k), .int (nI i), v4] [] (K, (upr (up2 I 66 2 (telF tv (fillR 25 (nI 0) (I 67)) i).2) 67 (telF tv (fillR 25 (nI 0) (I 67)) i).1), L, R, n, s) Q := by
    intro r; induction r with
    | zero =>
      intro i v4 hi hv0
      have hi2 : i = k := by omega
      subst hi2
      refine wp_iload3 (pc' := 16) rfl rfl ?_
      refine wp_iload2 (pc' := 17) rfl rfl ?_
      refine wp_icmpgeT rfl (nI_nlt (by omega) (by omega)) ?_
      refine wp_vret rfl rfl ?_
      exact kk
    | succ r ih =>
      intro i v4 hi hv0
      have hlt : i < k := by omega
      have hsx : telF tv (fillR 25 (nI 0) (I 67)) (i + 1) = telS tv i (telF tv (fillR 25 (nI 0) (I 67)) i) := rfl
      obtain ⟨G, h, hp⟩ : ∃ G h, telF tv (fillR 25 (nI 0) (I 67)) i = (G, h) := ⟨_, _, rfl⟩
      rw [hp] at hsx ⊢
      dsimp only
      refine wp_iload3 (pc' := 16) rfl rfl ?_
      refine wp_iload2 (pc' := 17) rfl rfl ?_
      refine wp_icmpgeF (pc' := 20) rfl (nI_lt (by omega) (by omega)) rfl ?_
      refine wp_aload1 (pc' := 21) rfl rfl ?_
      refine wp_iconst (v := nI 2) (pc' := 22) rfl rfl rfl ?_
      refine wp_iload3 (pc' := 23) rfl rfl ?_
      first | refine wp_imulN (pc' := 24) rfl (by with_reducible rfl) (by with_reducible rfl) rfl ?_ | refine wp_imul (pc' := 24) rfl rfl ?_
      refine wp_iconst (v := nI 1) (pc' := 25) rfl rfl rfl ?_
      first | refine wp_iaddN (pc' := 26) rfl (by with_reducible rfl) (by with_reducible rfl) rfl ?_ | refine wp_iadd (pc' := 26) rfl rfl ?_
      refine wp_iald _ (pc' := 27) rfl (by first | exact TK.k1 hT rfl | exact TK.kk hT rfl | exact TK.r hT rfl | assumption) (by with_reducible rfl) (by omega) (by first | decide | assumption | omega) rfl ?_
      rw [upr_ne (show 38 ≠ 67 by decide), up2_row (show 38 ≠ 66 by decide), htv _ (by omega)]
      refine wp_iconst (v := nI 1) (pc' := 28) rfl rfl rfl ?_
      refine wp_icmpne (pc' := 31) rfl rfl ?_ ?_
      · intro h28
        refine wp_iconst (v := nI 0) (pc' := 36) rfl rfl rfl ?_
        refine wp_istore4 (pc' := 38) rfl (by first | rfl | assumption) rfl ?_
        refine wp_aload0 (pc' := 39) rfl rfl ?_
        refine wp_getRF (pc' := 42) rfl rfl (by first | exact TK.k1 hT rfl | exact TK.kk hT rfl | exact TK.r hT rfl | assumption) (by first | exact TK.k1 hT rfl | exact TK.kk hT rfl | exact TK.r hT rfl | assumption) rfl ?_
        refine wp_aload1 (pc' := 43) rfl rfl ?_
        refine wp_iconst (v := nI 2) (pc' := 44) rfl rfl rfl ?_
        refine wp_iload3 (pc' := 45) rfl rfl ?_
        first | refine wp_imulN (pc' := 46) rfl (by with_reducible rfl) (by with_reducible rfl) rfl ?_ | refine wp_imul (pc' := 46) rfl rfl ?_
        refine wp_iald _ (pc' := 47) rfl (by first | exact TK.k1 hT rfl | exact TK.kk hT rfl | exact TK.r hT rfl | assumption) (by with_reducible rfl) (by omega) (by first | decide | assumption | omega) rfl ?_
        rw [upr_ne (show 38 ≠ 67 by decide), up2_row (show 38 ≠ 66 by decide), htv _ (by omega)]
        refine wp_dup2 (pc' := 48) rfl rfl rfl rfl ?_
        refine wp_iald (tv (2 * i)) (pc' := 49) rfl (TK.kk hT rfl) rfl (htl2 _ (by omega)) (by decide) rfl ?_
        rw [upr_same]
        refine wp_iload4 (pc' := 51) rfl rfl ?_
        refine wp_ifeqT rfl rfl ?_
        refine wp_iconst (v := nI 1) (pc' := 59) rfl rfl rfl ?_
        first | refine wp_iaddN (pc' := 60) rfl (by with_reducible rfl) (by with_reducible rfl) rfl ?_ | refine wp_iadd (pc' := 60) rfl rfl ?_
        refine wp_iast (tv (2 * i)) (pc' := 61) rfl (TK.kk hT rfl) (by omega) rfl (htl2 _ (by omega)) (by decide) rfl ?_
        refine wp_aload0 (pc' := 62) rfl rfl ?_
        refine wp_dup (pc' := 63) rfl rfl rfl ?_
        refine wp_getI (pc' := 66) rfl rfl (by first | exact TK.k1 hT rfl | exact TK.kk hT rfl | exact TK.r hT rfl | assumption) rfl ?_
        rw [up2_row (show 66 ≠ 67 by decide), upr_ne (show 66 ≠ 67 by decide), up2_hit]
        refine wp_iload4 (pc' := 68) rfl rfl ?_
        refine wp_ifeqT rfl rfl ?_
        refine wp_iconst (v := nI 0) (pc' := 76) rfl rfl rfl ?_
        first | refine wp_iaddN (pc' := 77) rfl (by with_reducible rfl) (by with_reducible rfl) rfl ?_ | refine wp_iadd (pc' := 77) rfl rfl ?_
        refine wp_putI (pc' := 80) rfl rfl (by first | exact TK.k1 hT rfl | exact TK.kk hT rfl | exact TK.r hT rfl | assumption) (by omega) rfl ?_
        first | refine wp_iinc3 (w := nI 1) (pc' := 83) rfl rfl rfl (by with_reducible exact nI_add _ _) rfl ?_ | refine wp_iinc3 (w := nI 1) (pc' := 83) rfl rfl rfl rfl rfl ?_
        refine wp_goto rfl ?_
        exact WP.cg (ih (i + 1) _ (by omega) (by first | rfl | assumption)) (lC1 (lC1 (lI1 (by rfl) (lI1 (by rfl) (lC1 rfl))))) rfl (by rw [hsx]; simp only [telS, h28, ↓reduceIte]; exact mI1 tel_eq)
      · intro h28
        refine wp_iconst (v := nI 1) (pc' := 32) rfl rfl rfl ?_
        refine wp_goto rfl ?_
        refine wp_istore4 (pc' := 38) rfl (by first | rfl | assumption) rfl ?_
        refine wp_aload0 (pc' := 39) rfl rfl ?_
        refine wp_getRF (pc' := 42) rfl rfl (by first | exact TK.k1 hT rfl | exact TK.kk hT rfl | exact TK.r hT rfl | assumption) (by first | exact TK.k1 hT rfl | exact TK.kk hT rfl | exact TK.r hT rfl | assumption) rfl ?_
        refine wp_aload1 (pc' := 43) rfl rfl ?_
        refine wp_iconst (v := nI 2) (pc' := 44) rfl rfl rfl ?_
        refine wp_iload3 (pc' := 45) rfl rfl ?_
        first | refine wp_imulN (pc' := 46) rfl (by with_reducible rfl) (by with_reducible rfl) rfl ?_ | refine wp_imul (pc' := 46) rfl rfl ?_
        refine wp_iald _ (pc' := 47) rfl (by first | exact TK.k1 hT rfl | exact TK.kk hT rfl | exact TK.r hT rfl | assumption) (by with_reducible rfl) (by omega) (by first | decide | assumption | omega) rfl ?_
        rw [upr_ne (show 38 ≠ 67 by decide), up2_row (show 38 ≠ 66 by decide), htv _ (by omega)]
        refine wp_dup2 (pc' := 48) rfl rfl rfl rfl ?_
        refine wp_iald (tv (2 * i)) (pc' := 49) rfl (TK.kk hT rfl) rfl (htl2 _ (by omega)) (by decide) rfl ?_
        rw [upr_same]
        refine wp_iload4 (pc' := 51) rfl rfl ?_
        refine wp_ifeqF (pc' := 54) rfl (by decide) rfl ?_
        refine wp_iconst (v := (-1)) (pc' := 55) rfl rfl rfl ?_
        refine wp_goto rfl ?_
        first | refine wp_iaddN (pc' := 60) rfl (by with_reducible rfl) (by with_reducible rfl) rfl ?_ | refine wp_iadd (pc' := 60) rfl rfl ?_
        refine wp_iast (tv (2 * i)) (pc' := 61) rfl (TK.kk hT rfl) (by omega) rfl (htl2 _ (by omega)) (by decide) rfl ?_
        refine wp_aload0 (pc' := 62) rfl rfl ?_
        refine wp_dup (pc' := 63) rfl rfl rfl ?_
        refine wp_getI (pc' := 66) rfl rfl (by first | exact TK.k1 hT rfl | exact TK.kk hT rfl | exact TK.r hT rfl | assumption) rfl ?_
        rw [up2_row (show 66 ≠ 67 by decide), upr_ne (show 66 ≠ 67 by decide), up2_hit]
        refine wp_iload4 (pc' := 68) rfl rfl ?_
        refine wp_ifeqF (pc' := 71) rfl (by decide) rfl ?_
        refine wp_iconst (v := nI 1) (pc' := 72) rfl rfl rfl ?_
        refine wp_goto rfl ?_
        first | refine wp_iaddN (pc' := 77) rfl (by with_reducible rfl) (by with_reducible rfl) rfl ?_ | refine wp_iadd (pc' := 77) rfl rfl ?_
        refine wp_putI (pc' := 80) rfl rfl (by first | exact TK.k1 hT rfl | exact TK.kk hT rfl | exact TK.r hT rfl | assumption) (by omega) rfl ?_
        first | refine wp_iinc3 (w := nI 1) (pc' := 83) rfl rfl rfl (by with_reducible exact nI_add _ _) rfl ?_ | refine wp_iinc3 (w := nI 1) (pc' := 83) rfl rfl rfl rfl rfl ?_
        refine wp_goto rfl ?_
        exact WP.cg (ih (i + 1) _ (by omega) (by first | rfl | assumption)) (lC1 (lC1 (lI1 (by rfl) (lI1 (by rfl) (lC1 rfl))))) rfl (by rw [hsx]; simp only [telS, h28, ↓reduceIte]; exact mI1 tel_eq)
  exact WP.cg (lp15 (k - (0)) (0) _ (by omega) (by first | rfl | assumption)) (lC1 (lC1 (lI1 (by rfl) (lI1 (by rfl) (lC1 rfl))))) rfl (by exact mI1 tel_0)
theorem c_countFits {d : Nat} {K : Nat → Nat × Nat} {I : Nat → Nat → Int32} {L : Nat → Nat → Int64} {R : Nat → Nat → Option Nat} {n s : Nat} {Q : Lo → Lm → Prop}  (hT : TK K R n) (kk : Q (.inl (some (.int (cntC (I 66 2) (I 67) 400)))) (K, I, L, R, n, s)) : Ok (d + 2) 154 [.ref 66] (K, I, L, R, n, s) Q := by
  obtain ⟨-, -, hn⟩ := id hT
  refine Ok.enter (F := F_154) (ls := [.ref 66, lDead, lDead]) rfl rfl ?_
  refine wp_iconst (v := nI 0) (pc' := 1) rfl rfl rfl ?_
  refine wp_istore1 (pc' := 2) rfl (by first | rfl | assumption) rfl ?_
  refine wp_iconst (v := nI 0) (pc' := 3) rfl rfl rfl ?_
  refine wp_istore2 (pc' := 4) rfl (by first | rfl | assumption) rfl ?_
  have lp4 : ∀ r (i : Nat), i + r = 400 → WP (d + 1) F_154 4 [.ref 66, .int (cntC (I 66 2) (I 67) i), .int (nI i)] [] (K, I, L, R, n, s) Q := by
    intro r; induction r with
    | zero =>
      intro i hi 
      have hi2 : i = 400 := by omega
      subst hi2
      refine wp_iload2 (pc' := 5) rfl rfl ?_
      refine wp_sipush (v := nI 400) (pc' := 8) rfl rfl rfl ?_
      refine wp_icmpgeT rfl (nI_nlt (by omega) (by omega)) ?_
      refine wp_iload1 (pc' := 33) rfl rfl ?_
      refine wp_iret rfl rfl rfl ?_
      exact kk
    | succ r ih =>
      intro i hi 
      have hlt : i < 400 := by omega
      refine wp_iload2 (pc' := 5) rfl rfl ?_
      refine wp_sipush (v := nI 400) (pc' := 8) rfl rfl rfl ?_
      refine wp_icmpgeF (pc' := 11) rfl (nI_lt (by omega) (by omega)) rfl ?_
      refine wp_aload0 (pc' := 12) rfl rfl ?_
      refine wp_iload2 (pc' := 13) rfl rfl ?_
      refine wp_callS1 (pc' := 16) rfl rfl rfl rfl rfl rfl ?_
      refine c_cellsOf (by omega) ?_
      refine Cont.v ?_
      refine wp_callV2 (pc' := 19) rfl rfl rfl rfl rfl (by first | exact TK.k1 hT rfl | exact TK.kk hT rfl | exact TK.r hT rfl | assumption) rfl rfl ?_
      refine c_wrongRows hT ?_
      refine Cont.v ?_
      refine wp_iconst (v := nI 2) (pc' := 20) rfl rfl rfl ?_
      refine wp_icmpge (pc' := 23) rfl rfl ?_ ?_
      · intro h20
        first | refine wp_iinc2 (w := nI 1) (pc' := 29) rfl rfl rfl (by with_reducible exact nI_add _ _) rfl ?_ | refine wp_iinc2 (w := nI 1) (pc' := 29) rfl rfl rfl rfl rfl ?_
        refine wp_goto rfl ?_
        exact WP.cg (ih (i + 1) (by omega)) (lC1 (lI1 (by first | with_reducible rfl | (simp only [cntC, forN, h20, ↓reduceIte]; done)) (lI1 (by first | with_reducible rfl | (simp only [cntC, forN, h20, ↓reduceIte]; done)) rfl))) rfl (by first | with_reducible rfl | (simp only [forN, *, ↓reduceIte, not_true_eq_false, not_false_eq_true, and_self, and_true, true_and, and_false, false_and]; done) | rfl | (simp_all [forN]; done))
      · intro h20
        first | refine wp_iinc1 (w := nI 1) (pc' := 26) rfl rfl rfl (by with_reducible exact nI_add _ _) rfl ?_ | refine wp_iinc1 (w := nI 1) (pc' := 26) rfl rfl rfl rfl rfl ?_
        first | refine wp_iinc2 (w := nI 1) (pc' := 29) rfl rfl rfl (by with_reducible exact nI_add _ _) rfl ?_ | refine wp_iinc2 (w := nI 1) (pc' := 29) rfl rfl rfl rfl rfl ?_
        refine wp_goto rfl ?_
        exact WP.cg (ih (i + 1) (by omega)) (lC1 (lI1 (by first | with_reducible rfl | (simp only [cntC, forN, h20, ↓reduceIte]; done)) (lI1 (by first | with_reducible rfl | (simp only [cntC, forN, h20, ↓reduceIte]; done)) rfl))) rfl (by first | with_reducible rfl | (simp only [forN, *, ↓reduceIte, not_true_eq_false, not_false_eq_true, and_self, and_true, true_and, and_false, false_and]; done) | rfl | (simp_all [forN]; done))
  exact WP.cg (lp4 (400 - (0)) (0) (by omega)) (lC1 (lI1 (by rfl) (lI1 (by rfl) rfl))) rfl (by first | with_reducible rfl | (simp only [forN, *, ↓reduceIte, not_true_eq_false, not_false_eq_true, and_self, and_true, true_and, and_false, false_and]; done) | rfl | (simp_all [forN]; done))
theorem c_leastWrong {d : Nat} {K : Nat → Nat × Nat} {I : Nat → Nat → Int32} {L : Nat → Nat → Int64} {R : Nat → Nat → Option Nat} {n s : Nat} {Q : Lo → Lm → Prop}  (hT : TK K R n) (kk : Q (.inl (some (.int ((lwC (I 66 2) (I 67) 400).2)))) (K, I, L, R, n, s)) : Ok (d + 2) 159 [.ref 66] (K, I, L, R, n, s) Q := by
  obtain ⟨-, -, hn⟩ := id hT
  refine Ok.enter (F := F_159) (ls := [.ref 66, lDead, lDead, lDead, lDead]) rfl rfl ?_
  refine wp_iconst (v := nI 2) (pc' := 1) rfl rfl rfl ?_
  refine wp_istore1 (pc' := 2) rfl (by first | rfl | assumption) rfl ?_
  refine wp_iconst (v := (-1)) (pc' := 3) rfl rfl rfl ?_
  refine wp_istore2 (pc' := 4) rfl (by first | rfl | assumption) rfl ?_
  refine wp_iconst (v := nI 0) (pc' := 5) rfl rfl rfl ?_
  refine wp_istore3 (pc' := 6) rfl (by first | rfl | assumption) rfl ?_
  have lp6 : ∀ r (i : Nat) (v4 : Value), i + r = 400 → isL v4 = false → WP (d + 1) F_159 6 [.ref 66, .int (lwC (I 66 2) (I 67) i).1, .int (lwC (I 66 2) (I 67) i).2, .int (nI i), v4] [] (K, I, L, R, n, s) Q := by
    intro r; induction r with
    | zero =>
      intro i v4 hi hv0
      have hi2 : i = 400 := by omega
      subst hi2
      refine wp_iload3 (pc' := 7) rfl rfl ?_
      refine wp_sipush (v := nI 400) (pc' := 10) rfl rfl rfl ?_
      refine wp_icmpgeT rfl (nI_nlt (by omega) (by omega)) ?_
      refine wp_iload2 (pc' := 41) rfl rfl ?_
      refine wp_iret rfl rfl rfl ?_
      exact kk
    | succ r ih =>
      intro i v4 hi hv0
      have hlt : i < 400 := by omega
      have hsx : lwC (I 66 2) (I 67) (i + 1) = lwS (I 66 2) (I 67) i (lwC (I 66 2) (I 67) i) := rfl
      generalize hp : lwC (I 66 2) (I 67) i = p at hsx ⊢
      refine wp_iload3 (pc' := 7) rfl rfl ?_
      refine wp_sipush (v := nI 400) (pc' := 10) rfl rfl rfl ?_
      refine wp_icmpgeF (pc' := 13) rfl (nI_lt (by omega) (by omega)) rfl ?_
      refine wp_aload0 (pc' := 14) rfl rfl ?_
      refine wp_iload3 (pc' := 15) rfl rfl ?_
      refine wp_callS1 (pc' := 18) rfl rfl rfl rfl rfl rfl ?_
      refine c_cellsOf (by omega) ?_
      refine Cont.v ?_
      refine wp_callV2 (pc' := 21) rfl rfl rfl rfl rfl (by first | exact TK.k1 hT rfl | exact TK.kk hT rfl | exact TK.r hT rfl | assumption) rfl rfl ?_
      refine c_wrongRows hT ?_
      refine Cont.v ?_
      refine wp_istore4 (pc' := 23) rfl (by first | rfl | assumption) rfl ?_
      refine wp_iload4 (pc' := 25) rfl rfl ?_
      refine wp_iload1 (pc' := 26) rfl rfl ?_
      refine wp_icmpge (pc' := 29) rfl rfl ?_ ?_
      · intro h26
        first | refine wp_iinc3 (w := nI 1) (pc' := 37) rfl rfl rfl (by with_reducible exact nI_add _ _) rfl ?_ | refine wp_iinc3 (w := nI 1) (pc' := 37) rfl rfl rfl rfl rfl ?_
        refine wp_goto rfl ?_
        exact WP.cg (ih (i + 1) _ (by omega) (by first | rfl | assumption)) (lC1 (lI1 (by first | with_reducible rfl | (rw [hsx]; simp only [lwS, h26, ↓reduceIte]; done)) (lI1 (by first | with_reducible rfl | (rw [hsx]; simp only [lwS, h26, ↓reduceIte]; done)) (lI1 (by first | with_reducible rfl | (rw [hsx]; simp only [lwS, h26, ↓reduceIte]; done)) (lC1 rfl))))) rfl (by first | with_reducible rfl | (simp only [forN, *, ↓reduceIte, not_true_eq_false, not_false_eq_true, and_self, and_true, true_and, and_false, false_and]; done) | rfl | (simp_all [forN]; done))
      · intro h26
        refine wp_iload4 (pc' := 31) rfl rfl ?_
        refine wp_istore1 (pc' := 32) rfl (by first | rfl | assumption) rfl ?_
        refine wp_iload3 (pc' := 33) rfl rfl ?_
        refine wp_istore2 (pc' := 34) rfl (by first | rfl | assumption) rfl ?_
        first | refine wp_iinc3 (w := nI 1) (pc' := 37) rfl rfl rfl (by with_reducible exact nI_add _ _) rfl ?_ | refine wp_iinc3 (w := nI 1) (pc' := 37) rfl rfl rfl rfl rfl ?_
        refine wp_goto rfl ?_
        exact WP.cg (ih (i + 1) _ (by omega) (by first | rfl | assumption)) (lC1 (lI1 (by first | with_reducible rfl | (rw [hsx]; simp only [lwS, h26, ↓reduceIte]; done)) (lI1 (by first | with_reducible rfl | (rw [hsx]; simp only [lwS, h26, ↓reduceIte]; done)) (lI1 (by first | with_reducible rfl | (rw [hsx]; simp only [lwS, h26, ↓reduceIte]; done)) (lC1 rfl))))) rfl (by first | with_reducible rfl | (simp only [forN, *, ↓reduceIte, not_true_eq_false, not_false_eq_true, and_self, and_true, true_and, and_false, false_and]; done) | rfl | (simp_all [forN]; done))
  exact WP.cg (lp6 (400 - (0)) (0) _ (by omega) (by first | rfl | assumption)) (lC1 (lI1 (by rfl) (lI1 (by rfl) (lI1 (by rfl) (lC1 rfl))))) rfl (by first | with_reducible rfl | (simp only [forN, *, ↓reduceIte, not_true_eq_false, not_false_eq_true, and_self, and_true, true_and, and_false, false_and]; done) | rfl | (simp_all [forN]; done))
theorem c_bestCell {d : Nat} {K : Nat → Nat × Nat} {I : Nat → Nat → Int32} {L : Nat → Nat → Int64} {R : Nat → Nat → Option Nat} {n s : Nat} {Q : Lo → Lm → Prop}  (hT : TK K R n) (kk : Q (.inl (some (.int (bcV (hdF (I 66 2) (I 67) (fillR 25 (nI 0) (I 68)) 400).1 (hdF (I 66 2) (I 67) (fillR 25 (nI 0) (I 68)) 400).2)))) (K, upr I 68 (hdF (I 66 2) (I 67) (fillR 25 (nI 0) (I 68)) 400).1, L, R, n, s)) : Ok (d + 2) 162 [.ref 66] (K, I, L, R, n, s) Q := by
  obtain ⟨-, -, hn⟩ := id hT
  have h66 : ∀ G : Nat → Int32, upr I 68 G 66 = I 66 := fun G => upr_ne (by decide)
  have h67 : ∀ G : Nat → Int32, upr I 68 G 67 = I 67 := fun G => upr_ne (by decide)
  refine Ok.enter (F := F_162) (ls := [.ref 66, lDead, lDead, lDead, lDead, lDead]) rfl rfl ?_
  refine wp_aload0 (pc' := 1) rfl rfl ?_
  refine wp_getRF (pc' := 4) rfl rfl (by first | exact TK.k1 hT rfl | exact TK.kk hT rfl | exact TK.r hT rfl | assumption) (by first | exact TK.k1 hT rfl | exact TK.kk hT rfl | exact TK.r hT rfl | assumption) rfl ?_
  refine wp_iconst (v := nI 0) (pc' := 5) rfl rfl rfl ?_
  refine wp_callS2 (pc' := 8) rfl rfl rfl rfl rfl rfl ?_
  refine c_fill (w := 25) (TK.kk hT rfl) (by decide) (by omega) ?_
  refine Cont.u ?_
  refine wp_iconst (v := nI 0) (pc' := 9) rfl rfl rfl ?_
  refine wp_istore1 (pc' := 10) rfl (by first | rfl | assumption) rfl ?_
  refine wp_iconst (v := nI 0) (pc' := 11) rfl rfl rfl ?_
  refine wp_istore2 (pc' := 12) rfl (by first | rfl | assumption) rfl ?_
  have lp12 : ∀ r (i : Nat) (v3 : Value) (v4 : Value) (v5 : Value), i + r = 400 → isL v3 = false → isL v4 = false → isL v5 = false → WP (d + 1) F_162 12 [.ref 66, .int (hdF (I 66 2) (I 67) (fillR 25 (nI 0) (I 68)) i).2, .int (nI i), v3, v4, v5] [] (K, upr I 68 (hdF (I 66 2) (I 67) (fillR 25 (nI 0) (I 68)) i).1, L, R, n, s) Q := by
    intro r; induction r with
    | zero =>
      intro i v3 v4 v5 hi hv0 hv1 hv2
      have hi2 : i = 400 := by omega
      subst hi2
      refine wp_iload2 (pc' := 13) rfl rfl ?_
      refine wp_sipush (v := nI 400) (pc' := 16) rfl rfl rfl ?_
      refine wp_icmpgeT rfl (nI_nlt (by omega) (by omega)) ?_
      generalize hZ : hdF (I 66 2) (I 67) (fillR 25 (nI 0) (I 68)) 400 = Z
      refine wp_sipush (v := nI 401) (pc' := 77) rfl rfl rfl ?_
      refine wp_istore2 (pc' := 78) rfl (by first | rfl | assumption) rfl ?_
      refine wp_iconst (v := (-1)) (pc' := 79) rfl rfl rfl ?_
      refine wp_istore3 (pc' := 80) rfl (by first | rfl | assumption) rfl ?_
      refine wp_iconst (v := nI 0) (pc' := 81) rfl rfl rfl ?_
      refine wp_istore4 (pc' := 83) rfl (by first | rfl | assumption) rfl ?_
      have lp83 : ∀ rb (i : Nat) (v5 : Value), i + rb = 25 → nI 1 < Z.2 ∨ i = 0 → isL v5 = false → WP (d + 1) F_162 83 [.ref 66, .int Z.2, .int (bcF Z.1 Z.2 i).1, .int (bcF Z.1 Z.2 i).2, .int (nI i), v5] [] (K, upr I 68 Z.1, L, R, n, s) Q := by
        intro rb; induction rb with
        | zero =>
          intro i v5 hib hvb0 hvb1
          have hi2b : i = 25 := by omega
          subst hi2b
          refine wp_iload4 (pc' := 85) rfl rfl ?_
          refine wp_bipush (v := nI 25) (pc' := 87) rfl rfl rfl ?_
          refine wp_icmpgeT rfl (nI_nlt (by omega) (by omega)) ?_
          refine wp_iload3 (pc' := 135) rfl rfl ?_
          refine wp_iret rfl rfl rfl ?_
          exact Qv kk (by unfold bcV; rw [hZ, if_pos (hvb0.resolve_right (by decide))]) (by rw [hZ])
        | succ rb ihb =>
          intro i v5 hib hvb0 hvb1
          have hltb : i < 25 := by omega
          have hsx : bcF Z.1 Z.2 (i + 1) = bcS Z.1 Z.2 i (bcF Z.1 Z.2 i) := rfl
          generalize hp : bcF Z.1 Z.2 i = p at hsx ⊢
          refine wp_iload4 (pc' := 85) rfl rfl ?_
          refine wp_bipush (v := nI 25) (pc' := 87) rfl rfl rfl ?_
          refine wp_icmpgeF (pc' := 90) rfl (nI_lt (by omega) (by omega)) rfl ?_
          refine wp_iload1 (pc' := 91) rfl rfl ?_
          refine wp_iconst (v := nI 1) (pc' := 92) rfl rfl rfl ?_
          refine wp_icmple (pc' := 95) rfl rfl ?_ ?_
          · intro h92
            refine wp_iload3 (pc' := 135) rfl rfl ?_
            refine wp_iret rfl rfl rfl ?_
            exact Qv kk (by
              have h0 : i = 0 := hvb0.resolve_left h92
              subst h0
              unfold bcV; rw [hZ, if_neg h92, ← hp]; rfl) (by rw [hZ])
          · intro h92
            refine wp_aload0 (pc' := 96) rfl rfl ?_
            refine wp_getRF (pc' := 99) rfl rfl (by first | exact TK.k1 hT rfl | exact TK.kk hT rfl | exact TK.r hT rfl | assumption) (by first | exact TK.k1 hT rfl | exact TK.kk hT rfl | exact TK.r hT rfl | assumption) rfl ?_
            refine wp_iload4 (pc' := 101) rfl rfl ?_
            refine wp_iald _ (pc' := 102) rfl (by first | exact TK.k1 hT rfl | exact TK.kk hT rfl | exact TK.r hT rfl | assumption) (by with_reducible rfl) (by omega) (by first | decide | assumption | omega) rfl ?_
            rw [upr_same]
            refine wp_iload1 (pc' := 103) rfl rfl ?_
            refine wp_aload0 (pc' := 104) rfl rfl ?_
            refine wp_getRF (pc' := 107) rfl rfl (by first | exact TK.k1 hT rfl | exact TK.kk hT rfl | exact TK.r hT rfl | assumption) (by first | exact TK.k1 hT rfl | exact TK.kk hT rfl | exact TK.r hT rfl | assumption) rfl ?_
            refine wp_iload4 (pc' := 109) rfl rfl ?_
            refine wp_iald _ (pc' := 110) rfl (by first | exact TK.k1 hT rfl | exact TK.kk hT rfl | exact TK.r hT rfl | assumption) (by with_reducible rfl) (by omega) (by first | decide | assumption | omega) rfl ?_
            rw [upr_same]
            first | refine wp_isubN (pc' := 111) rfl (by with_reducible rfl) (by with_reducible rfl) (by omega) rfl ?_ | refine wp_isub (pc' := 111) rfl rfl ?_
            refine wp_max (pc' := 114) rfl rfl rfl rfl ?_
            refine wp_istore5 (pc' := 116) rfl (by first | rfl | assumption) rfl ?_
            refine wp_iload5 (pc' := 118) rfl rfl ?_
            refine wp_iload2 (pc' := 119) rfl rfl ?_
            refine wp_icmpge (pc' := 122) rfl rfl ?_ ?_
            · intro h119
              first | refine wp_iinc4 (w := nI 1) (pc' := 131) rfl rfl rfl (by with_reducible exact nI_add _ _) rfl ?_ | refine wp_iinc4 (w := nI 1) (pc' := 131) rfl rfl rfl rfl rfl ?_
              refine wp_goto rfl ?_
              exact WP.cg (ihb (i + 1) _ (by omega) (Or.inl h92) (by first | rfl | assumption)) (lC1 (lI1 (by first | with_reducible rfl | (rw [hsx]; simp only [bcS, h119, ↓reduceIte]; done)) (lI1 (by first | with_reducible rfl | (rw [hsx]; simp only [bcS, h119, ↓reduceIte]; done)) (lI1 (by first | with_reducible rfl | (rw [hsx]; simp only [bcS, h119, ↓reduceIte]; done)) (lI1 (by first | with_reducible rfl | (rw [hsx]; simp only [bcS, h119, ↓reduceIte]; done)) (lC1 rfl)))))) rfl (by first | with_reducible rfl | (simp only [forN, *, ↓reduceIte, not_true_eq_false, not_false_eq_true, and_self, and_true, true_and, and_false, false_and]; done) | rfl | (simp_all [forN]; done))
            · intro h119
              refine wp_iload5 (pc' := 124) rfl rfl ?_
              refine wp_istore2 (pc' := 125) rfl (by first | rfl | assumption) rfl ?_
              refine wp_iload4 (pc' := 127) rfl rfl ?_
              refine wp_istore3 (pc' := 128) rfl (by first | rfl | assumption) rfl ?_
              first | refine wp_iinc4 (w := nI 1) (pc' := 131) rfl rfl rfl (by with_reducible exact nI_add _ _) rfl ?_ | refine wp_iinc4 (w := nI 1) (pc' := 131) rfl rfl rfl rfl rfl ?_
              refine wp_goto rfl ?_
              exact WP.cg (ihb (i + 1) _ (by omega) (Or.inl h92) (by first | rfl | assumption)) (lC1 (lI1 (by first | with_reducible rfl | (rw [hsx]; simp only [bcS, h119, ↓reduceIte]; done)) (lI1 (by first | with_reducible rfl | (rw [hsx]; simp only [bcS, h119, ↓reduceIte]; done)) (lI1 (by first | with_reducible rfl | (rw [hsx]; simp only [bcS, h119, ↓reduceIte]; done)) (lI1 (by first | with_reducible rfl | (rw [hsx]; simp only [bcS, h119, ↓reduceIte]; done)) (lC1 rfl)))))) rfl (by first | with_reducible rfl | (simp only [forN, *, ↓reduceIte, not_true_eq_false, not_false_eq_true, and_self, and_true, true_and, and_false, false_and]; done) | rfl | (simp_all [forN]; done))
      exact WP.cg (lp83 (25 - (0)) (0) _ (by omega) (Or.inr rfl) (by first | rfl | assumption)) (lC1 (lI1 (by rfl) (lI1 (by rfl) (lI1 (by rfl) (lI1 (by rfl) (lC1 rfl)))))) rfl (by first | with_reducible rfl | (simp only [forN, *, ↓reduceIte, not_true_eq_false, not_false_eq_true, and_self, and_true, true_and, and_false, false_and]; done) | rfl | (simp_all [forN]; done))
    | succ r ih =>
      intro i v3 v4 v5 hi hv0 hv1 hv2
      have hlt : i < 400 := by omega
      have hsx : hdF (I 66 2) (I 67) (fillR 25 (nI 0) (I 68)) (i + 1) = hdS (I 66 2) (I 67) i (hdF (I 66 2) (I 67) (fillR 25 (nI 0) (I 68)) i) := rfl
      obtain ⟨G, f, hp⟩ : ∃ G f, hdF (I 66 2) (I 67) (fillR 25 (nI 0) (I 68)) i = (G, f) := ⟨_, _, rfl⟩
      rw [hp] at hsx ⊢
      dsimp only
      refine wp_iload2 (pc' := 13) rfl rfl ?_
      refine wp_sipush (v := nI 400) (pc' := 16) rfl rfl rfl ?_
      refine wp_icmpgeF (pc' := 19) rfl (nI_lt (by omega) (by omega)) rfl ?_
      refine wp_iload2 (pc' := 20) rfl rfl ?_
      refine wp_callS1 (pc' := 23) rfl rfl rfl rfl rfl rfl ?_
      refine c_cellsOf (by omega) ?_
      refine Cont.v ?_
      refine wp_istore3 (pc' := 24) rfl (by first | rfl | assumption) rfl ?_
      refine wp_aload0 (pc' := 25) rfl rfl ?_
      refine wp_iload3 (pc' := 26) rfl rfl ?_
      refine wp_callV2 (pc' := 29) rfl rfl rfl rfl rfl (by first | exact TK.k1 hT rfl | exact TK.kk hT rfl | exact TK.r hT rfl | assumption) rfl rfl ?_
      refine c_wrongRows hT ?_
      rw [h66, h67]
      refine Cont.v ?_
      refine wp_iconst (v := nI 2) (pc' := 30) rfl rfl rfl ?_
      refine wp_icmpge (pc' := 33) rfl rfl ?_ ?_
      · intro h30
        first | refine wp_iinc2 (w := nI 1) (pc' := 71) rfl rfl rfl (by with_reducible exact nI_add _ _) rfl ?_ | refine wp_iinc2 (w := nI 1) (pc' := 71) rfl rfl rfl rfl rfl ?_
        refine wp_goto rfl ?_
        exact WP.cg (ih (i + 1) _ _ _ (by omega) (by first | rfl | assumption) (by first | rfl | assumption) (by first | rfl | assumption)) (lC1 (lI1 (by first | with_reducible rfl | (rw [hsx]; simp only [hdS, h30, ↓reduceIte]; done)) (lI1 (by first | with_reducible rfl | (rw [hsx]; simp only [hdS, h30, ↓reduceIte]; done)) (lC1 (lC1 (lC1 rfl)))))) rfl (by rw [hsx]; simp only [hdS, h30, ↓reduceIte])
      · intro h30
        first | refine wp_iinc1 (w := nI 1) (pc' := 36) rfl rfl rfl (by with_reducible exact nI_add _ _) rfl ?_ | refine wp_iinc1 (w := nI 1) (pc' := 36) rfl rfl rfl rfl rfl ?_
        refine wp_iconst (v := nI 0) (pc' := 37) rfl rfl rfl ?_
        refine wp_istore4 (pc' := 39) rfl (by first | rfl | assumption) rfl ?_
        have lp39 : ∀ rb (j : Nat) (v5 : Value), j + rb = 25 → isL v5 = false → WP (d + 1) F_162 39 [.ref 66, .int (f + nI 1), .int (nI i), .int (cellC i), .int (nI j), v5] [] (K, upr I 68 (hdI (cellC i) G j), L, R, n, s) Q := by
          intro rb; induction rb with
          | zero =>
            intro j v5 hib hvb0
            have hi2b : j = 25 := by omega
            subst hi2b
            refine wp_iload4 (pc' := 41) rfl rfl ?_
            refine wp_bipush (v := nI 25) (pc' := 43) rfl rfl rfl ?_
            refine wp_icmpgeT rfl (nI_nlt (by omega) (by omega)) ?_
            first | refine wp_iinc2 (w := nI 1) (pc' := 71) rfl rfl rfl (by with_reducible exact nI_add _ _) rfl ?_ | refine wp_iinc2 (w := nI 1) (pc' := 71) rfl rfl rfl rfl rfl ?_
            refine wp_goto rfl ?_
            exact WP.cg (ih (i + 1) _ _ _ (by omega) (by first | rfl | assumption) (by first | rfl | assumption) (by first | rfl | assumption)) (lC1 (lI1 (by first | with_reducible rfl | (rw [hsx]; simp only [hdS, h30, ↓reduceIte]; done)) (lI1 (by first | with_reducible rfl | (rw [hsx]; simp only [hdS, h30, ↓reduceIte]; done)) (lC1 (lC1 (lC1 rfl)))))) rfl (by rw [hsx]; simp only [hdS, h30, ↓reduceIte])
          | succ rb ihb =>
            intro j v5 hib hvb0
            have hltb : j < 25 := by omega
            refine wp_iload4 (pc' := 41) rfl rfl ?_
            refine wp_bipush (v := nI 25) (pc' := 43) rfl rfl rfl ?_
            refine wp_icmpgeF (pc' := 46) rfl (nI_lt (by omega) (by omega)) rfl ?_
            refine wp_aload0 (pc' := 47) rfl rfl ?_
            refine wp_getRF (pc' := 50) rfl rfl (by first | exact TK.k1 hT rfl | exact TK.kk hT rfl | exact TK.r hT rfl | assumption) (by first | exact TK.k1 hT rfl | exact TK.kk hT rfl | exact TK.r hT rfl | assumption) rfl ?_
            refine wp_iload4 (pc' := 52) rfl rfl ?_
            refine wp_dup2 (pc' := 53) rfl rfl rfl rfl ?_
            refine wp_iald _ (pc' := 54) rfl (by first | exact TK.k1 hT rfl | exact TK.kk hT rfl | exact TK.r hT rfl | assumption) (by with_reducible rfl) (by omega) (by first | decide | assumption | omega) rfl ?_
            rw [upr_same]
            refine wp_iload3 (pc' := 55) rfl rfl ?_
            refine wp_iload4 (pc' := 57) rfl rfl ?_
            refine wp_ishr (pc' := 58) rfl rfl ?_
            refine wp_iconst (v := nI 1) (pc' := 59) rfl rfl rfl ?_
            refine wp_iand (pc' := 60) rfl rfl ?_
            first | refine wp_iaddN (pc' := 61) rfl (by with_reducible rfl) (by with_reducible rfl) rfl ?_ | refine wp_iadd (pc' := 61) rfl rfl ?_
            refine wp_iast _ (pc' := 62) rfl (by first | exact TK.k1 hT rfl | exact TK.kk hT rfl | exact TK.r hT rfl | assumption) (by omega) (by with_reducible rfl) (by omega) (by first | decide | assumption | omega) rfl ?_
            first | refine wp_iinc4 (w := nI 1) (pc' := 65) rfl rfl rfl (by with_reducible exact nI_add _ _) rfl ?_ | refine wp_iinc4 (w := nI 1) (pc' := 65) rfl rfl rfl rfl rfl ?_
            refine wp_goto rfl ?_
            exact WP.cg (ihb (j + 1) _ (by omega) (by first | rfl | assumption)) (lC1 (lI1 (by rfl) (lI1 (by rfl) (lI1 (by rfl) (lI1 (by rfl) (lC1 rfl)))))) rfl (by rw [up2_upr]; rfl)
        exact WP.cg (lp39 (25 - (0)) (0) _ (by omega) (by first | rfl | assumption)) (lC1 (lI1 (by rfl) (lI1 (by rfl) (lI1 (by rfl) (lI1 (by rfl) (lC1 rfl)))))) rfl (by rfl)
  exact WP.cg (lp12 (400 - (0)) (0) _ _ _ (by omega) (by first | rfl | assumption) (by first | rfl | assumption) (by first | rfl | assumption)) (lC1 (lI1 (by rfl) (lI1 (by rfl) (lC1 (lC1 (lC1 rfl)))))) rfl (by rfl)
theorem c_trunks {d : Nat} {K : Nat → Nat × Nat} {I : Nat → Nat → Int32} {L : Nat → Nat → Int64} {R : Nat → Nat → Option Nat} {n s : Nat} {Q : Lo → Lm → Prop} {T : Nat} {tv : Nat → Nat} (hT : TK K R n) (hf : n + 1 ≤ lmCells) (hs : s + 6 ≤ lmSlots) (hL7 : I 0 7 = nI T) (hT4 : T ≤ 400) (htv : ∀ j, j < 400 → I 38 j = nI (tv j)) (htl : ∀ j, j < 400 → tv j < 256) (kkE : trB 25 2 tv T T = false → Q (.inr n) (exM 14 (K, up2 I 0 7 (nI 0), L, R, n, s))) (kk : trB 25 2 tv T T = true → Q (.inl (some (.int (cntC (telW I tv T).2 (telW I tv T).1 400)))) (K, telM I tv T, L, R, n, s)) : Ok (d + 3) 151 [.ref 0] (K, I, L, R, n, s) Q := by
  obtain ⟨-, -, hn⟩ := id hT
  refine Ok.enter (F := F_151) (ls := [.ref 0]) rfl rfl ?_
  refine wp_aload0 (pc' := 1) rfl rfl ?_
  refine wp_getRF (pc' := 4) rfl rfl (by first | exact TK.k1 hT rfl | exact TK.kk hT rfl | exact TK.r hT rfl | assumption) (by first | exact TK.k1 hT rfl | exact TK.kk hT rfl | exact TK.r hT rfl | assumption) rfl ?_
  refine wp_aload0 (pc' := 5) rfl rfl ?_
  refine wp_getRF (pc' := 8) rfl rfl (by first | exact TK.k1 hT rfl | exact TK.kk hT rfl | exact TK.r hT rfl | assumption) (by first | exact TK.k1 hT rfl | exact TK.kk hT rfl | exact TK.r hT rfl | assumption) rfl ?_
  refine wp_aload0 (pc' := 9) rfl rfl ?_
  refine wp_bipush (v := nI 25) (pc' := 11) rfl rfl rfl ?_
  refine wp_iconst (v := nI 2) (pc' := 12) rfl rfl rfl ?_
  refine wp_callV3 (pc' := 15) rfl rfl rfl rfl rfl (by first | exact TK.k1 hT rfl | exact TK.kk hT rfl | exact TK.r hT rfl | assumption) rfl rfl ?_
  refine c_toldRows hT hf hs hL7 hT4 htv htl (by decide) (by decide) (fun he => Cont.e rfl (kkE he)) (fun hok => ?_)
  obtain ⟨hok1, hok2⟩ := trB_40 hok
  refine Cont.v ?_
  refine wp_callV3 (pc' := 18) rfl rfl rfl rfl rfl (by first | exact TK.k1 hT rfl | exact TK.kk hT rfl | exact TK.r hT rfl | assumption) rfl rfl ?_
  refine c_tell hT (by omega) (fun j hj => by rw [up2_row (by decide)]; exact htv j hj) (fun j hj => by have := trB_lt hok (2 * j) (by omega); rw [if_pos (by omega)] at this; exact this) ?_
  refine Cont.u ?_
  refine wp_aload0 (pc' := 19) rfl rfl ?_
  refine wp_getRF (pc' := 22) rfl rfl (by first | exact TK.k1 hT rfl | exact TK.kk hT rfl | exact TK.r hT rfl | assumption) (by first | exact TK.k1 hT rfl | exact TK.kk hT rfl | exact TK.r hT rfl | assumption) rfl ?_
  refine wp_callV1 (pc' := 25) rfl rfl rfl rfl rfl (by first | exact TK.k1 hT rfl | exact TK.kk hT rfl | exact TK.r hT rfl | assumption) rfl rfl ?_
  change Ok _ _ _ (K, telM I tv T, L, R, n, s) _
  refine c_countFits hT ?_
  rw [telM_66, telM_67]
  refine Cont.v ?_
  refine wp_iret rfl rfl rfl ?_
  exact kk hok
theorem c_likely {d : Nat} {K : Nat → Nat × Nat} {I : Nat → Nat → Int32} {L : Nat → Nat → Int64} {R : Nat → Nat → Option Nat} {n s : Nat} {Q : Lo → Lm → Prop} {T : Nat} {tv : Nat → Nat} (hT : TK K R n) (hf : n + 1 ≤ lmCells) (hs : s + 6 ≤ lmSlots) (hL7 : I 0 7 = nI T) (hT4 : T ≤ 400) (htv : ∀ j, j < 400 → I 38 j = nI (tv j)) (htl : ∀ j, j < 400 → tv j < 256) (kkE : trB 25 2 tv T T = false → Q (.inr n) (exM 14 (K, up2 I 0 7 (nI 0), L, R, n, s))) (kk : trB 25 2 tv T T = true → Q (.inl (some (.int ((lwC (telW I tv T).2 (telW I tv T).1 400).2)))) (K, telM I tv T, L, R, n, s)) : Ok (d + 3) 158 [.ref 0] (K, I, L, R, n, s) Q := by
  obtain ⟨-, -, hn⟩ := id hT
  refine Ok.enter (F := F_158) (ls := [.ref 0]) rfl rfl ?_
  refine wp_aload0 (pc' := 1) rfl rfl ?_
  refine wp_getRF (pc' := 4) rfl rfl (by first | exact TK.k1 hT rfl | exact TK.kk hT rfl | exact TK.r hT rfl | assumption) (by first | exact TK.k1 hT rfl | exact TK.kk hT rfl | exact TK.r hT rfl | assumption) rfl ?_
  refine wp_aload0 (pc' := 5) rfl rfl ?_
  refine wp_getRF (pc' := 8) rfl rfl (by first | exact TK.k1 hT rfl | exact TK.kk hT rfl | exact TK.r hT rfl | assumption) (by first | exact TK.k1 hT rfl | exact TK.kk hT rfl | exact TK.r hT rfl | assumption) rfl ?_
  refine wp_aload0 (pc' := 9) rfl rfl ?_
  refine wp_bipush (v := nI 25) (pc' := 11) rfl rfl rfl ?_
  refine wp_iconst (v := nI 2) (pc' := 12) rfl rfl rfl ?_
  refine wp_callV3 (pc' := 15) rfl rfl rfl rfl rfl (by first | exact TK.k1 hT rfl | exact TK.kk hT rfl | exact TK.r hT rfl | assumption) rfl rfl ?_
  refine c_toldRows hT hf hs hL7 hT4 htv htl (by decide) (by decide) (fun he => Cont.e rfl (kkE he)) (fun hok => ?_)
  obtain ⟨hok1, hok2⟩ := trB_40 hok
  refine Cont.v ?_
  refine wp_callV3 (pc' := 18) rfl rfl rfl rfl rfl (by first | exact TK.k1 hT rfl | exact TK.kk hT rfl | exact TK.r hT rfl | assumption) rfl rfl ?_
  refine c_tell hT (by omega) (fun j hj => by rw [up2_row (by decide)]; exact htv j hj) (fun j hj => by have := trB_lt hok (2 * j) (by omega); rw [if_pos (by omega)] at this; exact this) ?_
  refine Cont.u ?_
  refine wp_aload0 (pc' := 19) rfl rfl ?_
  refine wp_getRF (pc' := 22) rfl rfl (by first | exact TK.k1 hT rfl | exact TK.kk hT rfl | exact TK.r hT rfl | assumption) (by first | exact TK.k1 hT rfl | exact TK.kk hT rfl | exact TK.r hT rfl | assumption) rfl ?_
  refine wp_callV1 (pc' := 25) rfl rfl rfl rfl rfl (by first | exact TK.k1 hT rfl | exact TK.kk hT rfl | exact TK.r hT rfl | assumption) rfl rfl ?_
  change Ok _ _ _ (K, telM I tv T, L, R, n, s) _
  refine c_leastWrong hT ?_
  rw [telM_66, telM_67]
  refine Cont.v ?_
  refine wp_iret rfl rfl rfl ?_
  exact kk hok
theorem c_probe {d : Nat} {K : Nat → Nat × Nat} {I : Nat → Nat → Int32} {L : Nat → Nat → Int64} {R : Nat → Nat → Option Nat} {n s : Nat} {Q : Lo → Lm → Prop} {T : Nat} {tv : Nat → Nat} (hT : TK K R n) (hf : n + 1 ≤ lmCells) (hs : s + 6 ≤ lmSlots) (hL7 : I 0 7 = nI T) (hT4 : T ≤ 400) (htv : ∀ j, j < 400 → I 38 j = nI (tv j)) (htl : ∀ j, j < 400 → tv j < 256) (kkE : trB 25 2 tv T T = false → Q (.inr n) (exM 14 (K, up2 I 0 7 (nI 0), L, R, n, s))) (kk : trB 25 2 tv T T = true → Q (.inl (some (.int (bcV (hdF (telW I tv T).2 (telW I tv T).1 (fillR 25 (nI 0) (I 68)) 400).1 (hdF (telW I tv T).2 (telW I tv T).1 (fillR 25 (nI 0) (I 68)) 400).2)))) (K, upr (telM I tv T) 68 (hdF (telW I tv T).2 (telW I tv T).1 (fillR 25 (nI 0) (I 68)) 400).1, L, R, n, s)) : Ok (d + 3) 161 [.ref 0] (K, I, L, R, n, s) Q := by
  obtain ⟨-, -, hn⟩ := id hT
  refine Ok.enter (F := F_161) (ls := [.ref 0]) rfl rfl ?_
  refine wp_aload0 (pc' := 1) rfl rfl ?_
  refine wp_getRF (pc' := 4) rfl rfl (by first | exact TK.k1 hT rfl | exact TK.kk hT rfl | exact TK.r hT rfl | assumption) (by first | exact TK.k1 hT rfl | exact TK.kk hT rfl | exact TK.r hT rfl | assumption) rfl ?_
  refine wp_aload0 (pc' := 5) rfl rfl ?_
  refine wp_getRF (pc' := 8) rfl rfl (by first | exact TK.k1 hT rfl | exact TK.kk hT rfl | exact TK.r hT rfl | assumption) (by first | exact TK.k1 hT rfl | exact TK.kk hT rfl | exact TK.r hT rfl | assumption) rfl ?_
  refine wp_aload0 (pc' := 9) rfl rfl ?_
  refine wp_bipush (v := nI 25) (pc' := 11) rfl rfl rfl ?_
  refine wp_iconst (v := nI 2) (pc' := 12) rfl rfl rfl ?_
  refine wp_callV3 (pc' := 15) rfl rfl rfl rfl rfl (by first | exact TK.k1 hT rfl | exact TK.kk hT rfl | exact TK.r hT rfl | assumption) rfl rfl ?_
  refine c_toldRows hT hf hs hL7 hT4 htv htl (by decide) (by decide) (fun he => Cont.e rfl (kkE he)) (fun hok => ?_)
  obtain ⟨hok1, hok2⟩ := trB_40 hok
  refine Cont.v ?_
  refine wp_callV3 (pc' := 18) rfl rfl rfl rfl rfl (by first | exact TK.k1 hT rfl | exact TK.kk hT rfl | exact TK.r hT rfl | assumption) rfl rfl ?_
  refine c_tell hT (by omega) (fun j hj => by rw [up2_row (by decide)]; exact htv j hj) (fun j hj => by have := trB_lt hok (2 * j) (by omega); rw [if_pos (by omega)] at this; exact this) ?_
  refine Cont.u ?_
  refine wp_aload0 (pc' := 19) rfl rfl ?_
  refine wp_getRF (pc' := 22) rfl rfl (by first | exact TK.k1 hT rfl | exact TK.kk hT rfl | exact TK.r hT rfl | assumption) (by first | exact TK.k1 hT rfl | exact TK.kk hT rfl | exact TK.r hT rfl | assumption) rfl ?_
  refine wp_callV1 (pc' := 25) rfl rfl rfl rfl rfl (by first | exact TK.k1 hT rfl | exact TK.kk hT rfl | exact TK.r hT rfl | assumption) rfl rfl ?_
  change Ok _ _ _ (K, telM I tv T, L, R, n, s) _
  refine c_bestCell hT ?_
  rw [telM_66, telM_67, show telM I tv T 68 = I 68 by unfold telM; rw [upr_ne (by decide), up2_row (by decide), up2_row (by decide)]]
  refine Cont.v ?_
  refine wp_iret rfl rfl rfl ?_
  exact kk hok
