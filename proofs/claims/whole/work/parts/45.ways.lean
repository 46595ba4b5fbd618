/-! WAYS: what is beside, ditches, ranks, nets -/
def nbO (c w : Nat) : Option Nat := match w with
  | 0 => if 0 < c % 5 then some (c - 1) else none
  | 1 => if c % 5 < 4 then some (c + 1) else none
  | 2 => if 5 ≤ c then some (c - 5) else none
  | _ => if c < 20 then some (c + 5) else none
def oI (q : Option Nat) : Int32 := match q with
  | none => -1
  | some k => nI k
theorem nbO_lt {c w k : Nat} (hc : c < 25) (h : nbO c w = some k) : k < 25 := by
  unfold nbO at h
  split at h <;> split at h <;> first | (cases h; omega) | (cases h; done)
theorem nI_nm1 {k : Nat} (h : k < 2 ^ 31) : ¬ nI k = -1 := fun e => by
  have := nI_pos h
  rw [e] at this
  exact this (by decide)
theorem nb_none {c w : Nat} (hc : c < 25) (h : oI (nbO c w) = -1) : nbO c w = none := by
  cases e : nbO c w with
  | none => rfl
  | some k => rw [e] at h; exact absurd h (nI_nm1 (by have := nbO_lt hc e; omega))
theorem nb_some {c w : Nat} (hc : c < 25) (h : ¬ oI (nbO c w) = -1) : ∃ k, k < 25 ∧ nbO c w = some k := by
  cases e : nbO c w with
  | none => rw [e] at h; exact absurd rfl h
  | some k => exact ⟨k, nbO_lt hc e, rfl⟩
theorem oI_some {k : Nat} : oI (some k) = nI k := rfl
def lbS (D : Nat → Int32) (c : Nat) (w : Nat) (x : Int32) : Int32 := match nbO c w with
  | none => x
  | some k => jmin x (D k)
def lbN (D : Nat → Int32) (c i : Nat) : Int32 := forN (fun w x => lbS D c w x) (nI 1000000) i
def lbC (D : Nat → Int32) (c : Nat) : Int32 := lbN D c 4
theorem lbN_n {D : Nat → Int32} {c i : Nat} (h : nbO c i = none) : lbN D c (i + 1) = lbN D c i := by
  show lbS D c i (lbN D c i) = _; unfold lbS; rw [h]
theorem lbN_s {D : Nat → Int32} {c i k : Nat} (h : nbO c i = some k) : lbN D c (i + 1) = jmin (lbN D c i) (D k) := by
  show lbS D c i (lbN D c i) = _; unfold lbS; rw [h]
def ditS (dr x : Int32) : Int32 := spreadC (x ||| besideC x ||| nI 16777216) dr
def ditF (dr : Int32) (c : Nat) : Nat → Nat → Int32 → Int32
  | 0, _, _ => -1
  | r + 1, i, x => if hasP x c then nI i else ditF dr c r (i + 1) (ditS dr x)
def fillR (w : Nat) (v : Int32) (g : Nat → Int32) : Nat → Int32 := fun j => if j < w then v else g j
theorem fillR_s {i : Nat} {v : Int32} {g : Nat → Int32} : up1 (fillR i v g) i v = fillR (i + 1) v g := by
  funext j; unfold up1 fillR
  by_cases h : j = i
  · subst h; rw [if_pos rfl, if_pos (by omega)]
  · rw [if_neg h]
    by_cases q : j < i
    · rw [if_pos q, if_pos (by omega)]
    · rw [if_neg q, if_neg (by omega)]
theorem fillR_0 {v : Int32} {g : Nat → Int32} : fillR 0 v g = g := by funext j; unfold fillR; rw [if_neg (by omega)]
/-! relaxing a row -/
def rlS (f : Nat → Int32 → Int32) (c : Nat) (p : (Nat → Int32) × Int32) : (Nat → Int32) × Int32 := if f c (lbC p.1 c) < p.1 c then (up1 p.1 c (f c (lbC p.1 c)), nI 1) else p
def rlI (f : Nat → Int32 → Int32) (lo : Nat) (p : (Nat → Int32) × Int32) (k : Nat) : (Nat → Int32) × Int32 := forN (fun j q => rlS f (lo + j) q) p k
def rlX (f : Nat → Int32 → Int32) (lo w : Nat) (p : (Nat → Int32) × Int32) : (Nat → Int32) × Int32 := if p.2 = nI 0 then p else rlI f lo (p.1, nI 0) w
def rlO (f : Nat → Int32 → Int32) (lo w : Nat) (g : Nat → Int32) (i : Nat) : (Nat → Int32) × Int32 := forN (fun _ p => rlX f lo w p) (g, nI 1) i
theorem rlO_stay {f : Nat → Int32 → Int32} {lo w : Nat} {g : Nat → Int32} {i : Nat} (h : (rlO f lo w g i).2 = nI 0) {m : Nat} (hm : i ≤ m) : rlO f lo w g m = rlO f lo w g i :=
  forN_stay (rlX f lo w) (g, nI 1) (show rlX f lo w (rlO f lo w g i) = rlO f lo w g i by rw [rlX, if_pos h]) hm
def rlV (f : Nat → Int32 → Int32) (lo w : Nat) (g : Nat → Int32) : Nat → Int32 := (rlO f lo w g 25).1
def rkF (sk : Nat → Int32) (c : Nat) (x : Int32) : Int32 := x + sk c * nI 32 + nI 1
def gnF (dr : Int32) (c : Nat) (x : Int32) : Int32 := x + nI 1 - (jshr dr (nI c) &&& nI 1)
def rk1S (b : Nat) (dr : Int32) (o : LawT) (c : Nat) (J : Mem) : Mem :=
  up2 (up2 (sinkF J b c dr o).2 48 c (sinkF J b c dr o).1) 47 c (if nI c < nI 5 then (sinkF J b c dr o).1 * nI 32 else nI 1000000)
def rk1M (I : Mem) (b : Nat) (dr : Int32) (o : LawT) (i : Nat) : Mem := forN (fun c J => rk1S b dr o c J) I i
theorem LO_off {K : Nat → Nat × Nat} {R : Nat → Nat → Option Nat} {n : Nat} {I J : Mem} {b : Nat} {o : LawT} (h : LO K R n I b o) (hw : LOw o) (e : ∀ a, 338 ≤ a → offL o a → J a = I a) : LO K R n J b o := by
  match o, h, hw with
  | none, h, _ => exact h
  | some (la, m, z, bg), ⟨h1, h2, ⟨n1, n2, n3, n4⟩, h4⟩, hw =>
    have hla : 338 ≤ la := hw
    refine ⟨h1, h2, ⟨?_, fun l hl => ?_, n3, n4⟩, h4⟩
    · rw [e la hla (show la ≠ la + 5 by omega)]; exact n1
    · rw [e (la + 3) (by omega) (show la + 3 ≠ la + 5 by omega)]; exact n2 l hl
theorem rk1S_out {J : Mem} {b c a : Nat} {dr : Int32} {o : LawT} (h1 : a ≠ 47) (h2 : a ≠ 48) (h3 : offL o a) : rk1S b dr o c J a = J a := by
  unfold rk1S; rw [up2_row h1, up2_row h2, sinkF_out h3]
theorem rk1M_out {I : Mem} {b a : Nat} {dr : Int32} {o : LawT} (h1 : a ≠ 47) (h2 : a ≠ 48) (h3 : offL o a) : ∀ i, rk1M I b dr o i a = I a
  | 0 => rfl
  | i + 1 => (rk1S_out h1 h2 h3).trans (rk1M_out h1 h2 h3 i)
theorem LO_rk1 {K : Nat → Nat × Nat} {R : Nat → Nat → Option Nat} {n : Nat} {I : Mem} {b : Nat} {dr : Int32} {o : LawT} (h : LO K R n I b o) (hw : LOw o) (i : Nat) : LO K R n (rk1M I b dr o i) b o :=
  LO_off h hw (fun a ha hl => rk1M_out (by omega) (by omega) hl i)
theorem LO_sink {K : Nat → Nat × Nat} {R : Nat → Nat → Option Nat} {n : Nat} {I : Mem} {b c : Nat} {dr : Int32} {o : LawT} (h : LO K R n I b o) : LO K R n (sinkF I b c dr o).2 b o := by
  match o, h with
  | none, h => exact h
  | some q, h => exact LO_tot h
def rankM (I : Mem) (b : Nat) (o : LawT) : Mem := upr (rk1M I b (drainC (I b 11)) o 25) 47 (rlV (rkF (rk1M I b (drainC (I b 11)) o 25 48)) 5 20 (rk1M I b (drainC (I b 11)) o 25 47))
theorem TK.net {K : Nat → Nat × Nat} {R : Nat → Nat → Option Nat} {n j : Nat} (h : TK K R n) (hj : j < 16) : R 49 j = some (50 + j) := by
  refine h.2.1 _ _ _ ?_
  show (bif Nat.blt j 16 then some (50 + j) else none) = _
  rw [Nat.blt_eq.mpr hj]; rfl
theorem TK.netk {K : Nat → Nat × Nat} {R : Nat → Nat → Option Nat} {n j : Nat} (h : TK K R n) (hj : j < 16) : K (50 + j) = (50, 25) := by
  refine h.1 _ _ ?_
  unfold k0
  rw [blt_f (show 37 ≤ 50 + j by omega), blt_f (show 50 ≤ 50 + j by omega), show Nat.blt (50 + j) 66 = true from Nat.blt_eq.mpr (by omega)]; rfl

theorem c_nb0 {d : Nat} {K : Nat → Nat × Nat} {I : Nat → Nat → Int32} {L : Nat → Nat → Int64} {R : Nat → Nat → Option Nat} {n s : Nat} {Q : Lo → Lm → Prop} {c : Nat} (hc : c < 25) (kk : Q (.inl (some (.int (oI (nbO c 0))))) (K, I, L, R, n, s)) : Ok (d + 1) 114 [.int (nI c), .int (nI 0)] (K, I, L, R, n, s) Q := by
  refine Ok.enter (F := F_114) (ls := [.int (nI c), .int (nI 0), lDead]) rfl rfl ?_
  refine wp_iload0 (pc' := 1) rfl rfl ?_
  refine wp_iconst (v := nI 5) (pc' := 2) rfl rfl rfl ?_
  first | refine wp_iremN (pc' := 3) rfl (by with_reducible rfl) (by with_reducible rfl) (by omega) (by omega) (by omega) rfl ?_ | refine wp_irem (pc' := 3) rfl (by decide) rfl ?_
  refine wp_istore2 (pc' := 4) rfl (by first | rfl | assumption) rfl ?_
  refine wp_iload1 (pc' := 5) rfl rfl ?_
  refine wp_sw (tg := 32) rfl rfl ?_
  refine wp_iload2 (pc' := 33) rfl rfl ?_
  refine wp_ifle (pc' := 36) rfl rfl ?_ ?_
  · intro h33
    refine wp_iconst (v := (-1)) (pc' := 43) rfl rfl rfl ?_
    refine wp_iret rfl rfl rfl ?_
    exact Qv kk (by unfold nbO; first | (rw [if_pos ((nI_ltI (by omega) (by omega)).mp h33)]; rfl) | (rw [if_neg (fun q => h33 (nI_lt q (by omega)))]; rfl)) rfl
  · intro h33
    have hc5 : 0 < c % 5 := (nI_ltI (by omega) (by omega)).mp h33
    have hc1 : 1 ≤ c := by omega
    refine wp_iload0 (pc' := 37) rfl rfl ?_
    refine wp_iconst (v := nI 1) (pc' := 38) rfl rfl rfl ?_
    first | refine wp_isubN (pc' := 39) rfl (by with_reducible rfl) (by with_reducible rfl) (by omega) rfl ?_ | refine wp_isub (pc' := 39) rfl rfl ?_
    refine wp_goto rfl ?_
    refine wp_iret rfl rfl rfl ?_
    exact Qv kk (by unfold nbO; first | (rw [if_pos ((nI_ltI (by omega) (by omega)).mp h33)]; rfl) | (rw [if_neg (fun q => h33 (nI_lt q (by omega)))]; rfl)) rfl
theorem c_nb1 {d : Nat} {K : Nat → Nat × Nat} {I : Nat → Nat → Int32} {L : Nat → Nat → Int64} {R : Nat → Nat → Option Nat} {n s : Nat} {Q : Lo → Lm → Prop} {c : Nat} (hc : c < 25) (kk : Q (.inl (some (.int (oI (nbO c 1))))) (K, I, L, R, n, s)) : Ok (d + 1) 114 [.int (nI c), .int (nI 1)] (K, I, L, R, n, s) Q := by
  refine Ok.enter (F := F_114) (ls := [.int (nI c), .int (nI 1), lDead]) rfl rfl ?_
  refine wp_iload0 (pc' := 1) rfl rfl ?_
  refine wp_iconst (v := nI 5) (pc' := 2) rfl rfl rfl ?_
  first | refine wp_iremN (pc' := 3) rfl (by with_reducible rfl) (by with_reducible rfl) (by omega) (by omega) (by omega) rfl ?_ | refine wp_irem (pc' := 3) rfl (by decide) rfl ?_
  refine wp_istore2 (pc' := 4) rfl (by first | rfl | assumption) rfl ?_
  refine wp_iload1 (pc' := 5) rfl rfl ?_
  refine wp_sw (tg := 44) rfl rfl ?_
  refine wp_iload2 (pc' := 45) rfl rfl ?_
  refine wp_iconst (v := nI 4) (pc' := 46) rfl rfl rfl ?_
  refine wp_icmpge (pc' := 49) rfl rfl ?_ ?_
  · intro h46
    refine wp_iconst (v := (-1)) (pc' := 56) rfl rfl rfl ?_
    refine wp_iret rfl rfl rfl ?_
    exact Qv kk (by unfold nbO; first | (rw [if_pos ((nI_ltI (by omega) (by omega)).mp h46)]; rfl) | (rw [if_neg (fun q => h46 (nI_lt q (by omega)))]; rfl)) rfl
  · intro h46
    refine wp_iload0 (pc' := 50) rfl rfl ?_
    refine wp_iconst (v := nI 1) (pc' := 51) rfl rfl rfl ?_
    first | refine wp_iaddN (pc' := 52) rfl (by with_reducible rfl) (by with_reducible rfl) rfl ?_ | refine wp_iadd (pc' := 52) rfl rfl ?_
    refine wp_goto rfl ?_
    refine wp_iret rfl rfl rfl ?_
    exact Qv kk (by unfold nbO; first | (rw [if_pos ((nI_ltI (by omega) (by omega)).mp h46)]; rfl) | (rw [if_neg (fun q => h46 (nI_lt q (by omega)))]; rfl)) rfl
theorem c_nb2 {d : Nat} {K : Nat → Nat × Nat} {I : Nat → Nat → Int32} {L : Nat → Nat → Int64} {R : Nat → Nat → Option Nat} {n s : Nat} {Q : Lo → Lm → Prop} {c : Nat} (hc : c < 25) (kk : Q (.inl (some (.int (oI (nbO c 2))))) (K, I, L, R, n, s)) : Ok (d + 1) 114 [.int (nI c), .int (nI 2)] (K, I, L, R, n, s) Q := by
  refine Ok.enter (F := F_114) (ls := [.int (nI c), .int (nI 2), lDead]) rfl rfl ?_
  refine wp_iload0 (pc' := 1) rfl rfl ?_
  refine wp_iconst (v := nI 5) (pc' := 2) rfl rfl rfl ?_
  first | refine wp_iremN (pc' := 3) rfl (by with_reducible rfl) (by with_reducible rfl) (by omega) (by omega) (by omega) rfl ?_ | refine wp_irem (pc' := 3) rfl (by decide) rfl ?_
  refine wp_istore2 (pc' := 4) rfl (by first | rfl | assumption) rfl ?_
  refine wp_iload1 (pc' := 5) rfl rfl ?_
  refine wp_sw (tg := 57) rfl rfl ?_
  refine wp_iload0 (pc' := 58) rfl rfl ?_
  refine wp_iconst (v := nI 5) (pc' := 59) rfl rfl rfl ?_
  refine wp_icmplt (pc' := 62) rfl rfl ?_ ?_
  · intro h59
    refine wp_iconst (v := (-1)) (pc' := 69) rfl rfl rfl ?_
    refine wp_iret rfl rfl rfl ?_
    exact Qv kk (by unfold nbO; first | (rw [if_pos (Nat.le_of_not_lt (fun q => h59 (nI_lt q (by omega))))]; rfl) | (rw [if_neg (Nat.not_le_of_gt ((nI_ltI (by omega) (by omega)).mp h59))]; rfl)) rfl
  · intro h59
    have hc5 : 5 ≤ c := Nat.le_of_not_lt (fun q => h59 (nI_lt q (by omega)))
    refine wp_iload0 (pc' := 63) rfl rfl ?_
    refine wp_iconst (v := nI 5) (pc' := 64) rfl rfl rfl ?_
    first | refine wp_isubN (pc' := 65) rfl (by with_reducible rfl) (by with_reducible rfl) (by omega) rfl ?_ | refine wp_isub (pc' := 65) rfl rfl ?_
    refine wp_goto rfl ?_
    refine wp_iret rfl rfl rfl ?_
    exact Qv kk (by unfold nbO; first | (rw [if_pos (Nat.le_of_not_lt (fun q => h59 (nI_lt q (by omega))))]; rfl) | (rw [if_neg (Nat.not_le_of_gt ((nI_ltI (by omega) (by omega)).mp h59))]; rfl)) rfl
theorem c_nb3 {d : Nat} {K : Nat → Nat × Nat} {I : Nat → Nat → Int32} {L : Nat → Nat → Int64} {R : Nat → Nat → Option Nat} {n s : Nat} {Q : Lo → Lm → Prop} {c : Nat} (hc : c < 25) (kk : Q (.inl (some (.int (oI (nbO c 3))))) (K, I, L, R, n, s)) : Ok (d + 1) 114 [.int (nI c), .int (nI 3)] (K, I, L, R, n, s) Q := by
  refine Ok.enter (F := F_114) (ls := [.int (nI c), .int (nI 3), lDead]) rfl rfl ?_
  refine wp_iload0 (pc' := 1) rfl rfl ?_
  refine wp_iconst (v := nI 5) (pc' := 2) rfl rfl rfl ?_
  first | refine wp_iremN (pc' := 3) rfl (by with_reducible rfl) (by with_reducible rfl) (by omega) (by omega) (by omega) rfl ?_ | refine wp_irem (pc' := 3) rfl (by decide) rfl ?_
  refine wp_istore2 (pc' := 4) rfl (by first | rfl | assumption) rfl ?_
  refine wp_iload1 (pc' := 5) rfl rfl ?_
  refine wp_sw (tg := 70) rfl rfl ?_
  refine wp_iload0 (pc' := 71) rfl rfl ?_
  refine wp_bipush (v := nI 20) (pc' := 73) rfl rfl rfl ?_
  refine wp_icmpge (pc' := 76) rfl rfl ?_ ?_
  · intro h73
    refine wp_iconst (v := (-1)) (pc' := 83) rfl rfl rfl ?_
    refine wp_iret rfl rfl rfl ?_
    exact Qv kk (by unfold nbO; first | (rw [if_pos ((nI_ltI (by omega) (by omega)).mp h73)]; rfl) | (rw [if_neg (fun q => h73 (nI_lt q (by omega)))]; rfl)) rfl
  · intro h73
    refine wp_iload0 (pc' := 77) rfl rfl ?_
    refine wp_iconst (v := nI 5) (pc' := 78) rfl rfl rfl ?_
    first | refine wp_iaddN (pc' := 79) rfl (by with_reducible rfl) (by with_reducible rfl) rfl ?_ | refine wp_iadd (pc' := 79) rfl rfl ?_
    refine wp_goto rfl ?_
    refine wp_iret rfl rfl rfl ?_
    exact Qv kk (by unfold nbO; first | (rw [if_pos ((nI_ltI (by omega) (by omega)).mp h73)]; rfl) | (rw [if_neg (fun q => h73 (nI_lt q (by omega)))]; rfl)) rfl
theorem c_nb {d : Nat} {K : Nat → Nat × Nat} {I : Mem} {L : Nat → Nat → Int64} {R : Nat → Nat → Option Nat} {n s : Nat} {Q : Lo → Lm → Prop} {c w : Nat} (hc : c < 25) (hw : w < 4) (kk : Q (.inl (some (.int (oI (nbO c w))))) (K, I, L, R, n, s)) : Ok (d + 1) 114 [.int (nI c), .int (nI w)] (K, I, L, R, n, s) Q := by
  match w, hw, kk with
  | 0, _, kk => exact c_nb0 hc kk
  | 1, _, kk => exact c_nb1 hc kk
  | 2, _, kk => exact c_nb2 hc kk
  | 3, _, kk => exact c_nb3 hc kk
theorem c_lb {d : Nat} {K : Nat → Nat × Nat} {I : Nat → Nat → Int32} {L : Nat → Nat → Int64} {R : Nat → Nat → Option Nat} {n s : Nat} {Q : Lo → Lm → Prop} {a c : Nat} (ha : K a = (50, 25)) (hc : c < 25) (kk : Q (.inl (some (.int (lbC (I a) c)))) (K, I, L, R, n, s)) : Ok (d + 2) 113 [.ref a, .int (nI c)] (K, I, L, R, n, s) Q := by
  refine Ok.enter (F := F_113) (ls := [.ref a, .int (nI c), lDead, lDead, lDead]) rfl rfl ?_
  refine wp_pool (v := .int (nI 1000000)) (pc' := 2) rfl rfl rfl rfl rfl ?_
  refine wp_istore2 (pc' := 3) rfl (by first | rfl | assumption) rfl ?_
  refine wp_iconst (v := nI 0) (pc' := 4) rfl rfl rfl ?_
  refine wp_istore3 (pc' := 5) rfl (by first | rfl | assumption) rfl ?_
  have lp5 : ∀ r (i : Nat) (v4 : Value), i + r = 4 → isL v4 = false → WP (d + 1) F_113 5 [.ref a, .int (nI c), .int (lbN (I a) c i), .int (nI i), v4] [] (K, I, L, R, n, s) Q := by
    intro r; induction r with
    | zero =>
      intro i v4 hi hv0
      have hi2 : i = 4 := by omega
      subst hi2
      refine wp_iload3 (pc' := 6) rfl rfl ?_
      refine wp_iconst (v := nI 4) (pc' := 7) rfl rfl rfl ?_
      refine wp_icmpgeT rfl (nI_nlt (by omega) (by omega)) ?_
      refine wp_iload2 (pc' := 39) rfl rfl ?_
      refine wp_iret rfl rfl rfl ?_
      exact kk
    | succ r ih =>
      intro i v4 hi hv0
      have hlt : i < 4 := by omega
      refine wp_iload3 (pc' := 6) rfl rfl ?_
      refine wp_iconst (v := nI 4) (pc' := 7) rfl rfl rfl ?_
      refine wp_icmpgeF (pc' := 10) rfl (nI_lt (by omega) (by omega)) rfl ?_
      refine wp_iload1 (pc' := 11) rfl rfl ?_
      refine wp_iload3 (pc' := 12) rfl rfl ?_
      refine wp_callS2 (pc' := 15) rfl rfl rfl rfl rfl rfl ?_
      refine c_nb (by omega) (by omega) ?_
      refine Cont.v ?_
      refine wp_istore4 (pc' := 17) rfl (by first | rfl | assumption) rfl ?_
      refine wp_iload4 (pc' := 19) rfl rfl ?_
      refine wp_iconst (v := (-1)) (pc' := 20) rfl rfl rfl ?_
      refine wp_icmpeq (pc' := 23) rfl rfl ?_ ?_
      · intro h20
        first | refine wp_iinc3 (w := nI 1) (pc' := 35) rfl rfl rfl (by with_reducible exact nI_add _ _) rfl ?_ | refine wp_iinc3 (w := nI 1) (pc' := 35) rfl rfl rfl rfl rfl ?_
        refine wp_goto rfl ?_
        exact WP.cg (ih (i + 1) _ (by omega) (by first | rfl | assumption)) (lC1 (lI1 (by first | with_reducible rfl | exact (lbN_s hnb).symm | exact (lbN_n (nb_none hc h20)).symm) (lI1 (by first | with_reducible rfl | exact (lbN_s hnb).symm | exact (lbN_n (nb_none hc h20)).symm) (lI1 (by first | with_reducible rfl | exact (lbN_s hnb).symm | exact (lbN_n (nb_none hc h20)).symm) (lC1 rfl))))) rfl (by first | with_reducible rfl | (simp only [forN, *, ↓reduceIte, not_true_eq_false, not_false_eq_true, and_self, and_true, true_and, and_false, false_and]; done) | rfl | (simp_all [forN]; done))
      · intro h20
        obtain ⟨k, hk, hnb⟩ := nb_some hc h20
        rw [hnb, oI_some]
        refine wp_iload2 (pc' := 24) rfl rfl ?_
        refine wp_aload0 (pc' := 25) rfl rfl ?_
        refine wp_iload4 (pc' := 27) rfl rfl ?_
        refine wp_iald _ (pc' := 28) rfl (by assumption) (by with_reducible rfl) (by omega) (by first | decide | assumption | omega) rfl ?_
        refine wp_min (pc' := 31) rfl rfl rfl rfl ?_
        refine wp_istore2 (pc' := 32) rfl (by first | rfl | assumption) rfl ?_
        first | refine wp_iinc3 (w := nI 1) (pc' := 35) rfl rfl rfl (by with_reducible exact nI_add _ _) rfl ?_ | refine wp_iinc3 (w := nI 1) (pc' := 35) rfl rfl rfl rfl rfl ?_
        refine wp_goto rfl ?_
        exact WP.cg (ih (i + 1) _ (by omega) (by first | rfl | assumption)) (lC1 (lI1 (by first | with_reducible rfl | exact (lbN_s hnb).symm | exact (lbN_n (nb_none hc h20)).symm) (lI1 (by first | with_reducible rfl | exact (lbN_s hnb).symm | exact (lbN_n (nb_none hc h20)).symm) (lI1 (by first | with_reducible rfl | exact (lbN_s hnb).symm | exact (lbN_n (nb_none hc h20)).symm) (lC1 rfl))))) rfl (by first | with_reducible rfl | (simp only [forN, *, ↓reduceIte, not_true_eq_false, not_false_eq_true, and_self, and_true, true_and, and_false, false_and]; done) | rfl | (simp_all [forN]; done))
  exact WP.cg (lp5 (4 - (0)) (0) _ (by omega) (by first | rfl | assumption)) (lC1 (lI1 (by rfl) (lI1 (by rfl) (lI1 (by rfl) (lC1 rfl))))) rfl (by first | with_reducible rfl | (simp only [forN, *, ↓reduceIte, not_true_eq_false, not_false_eq_true, and_self, and_true, true_and, and_false, false_and]; done) | rfl | (simp_all [forN]; done))
theorem c_ditch {d : Nat} {K : Nat → Nat × Nat} {I : Nat → Nat → Int32} {L : Nat → Nat → Int64} {R : Nat → Nat → Option Nat} {n s : Nat} {Q : Lo → Lm → Prop} {x : Int32} {c : Nat}  (kk : Q (.inl (some (.int (ditF x c 26 0 (drainC x))))) (K, I, L, R, n, s)) : Ok (d + 3) 110 [.int x, .int (nI c)] (K, I, L, R, n, s) Q := by
  refine Ok.enter (F := F_110) (ls := [.int x, .int (nI c), lDead, lDead]) rfl rfl ?_
  refine wp_iload0 (pc' := 1) rfl rfl ?_
  refine wp_pool (v := .int (nI 16777216)) (pc' := 3) rfl rfl rfl rfl rfl ?_
  refine wp_iand (pc' := 4) rfl rfl ?_
  refine wp_iload0 (pc' := 5) rfl rfl ?_
  refine wp_callS2 (pc' := 8) rfl rfl rfl rfl rfl rfl ?_
  refine c_spread ?_
  refine Cont.v ?_
  refine wp_istore2 (pc' := 9) rfl (by first | rfl | assumption) rfl ?_
  refine wp_iconst (v := nI 0) (pc' := 10) rfl rfl rfl ?_
  refine wp_istore3 (pc' := 11) rfl (by first | rfl | assumption) rfl ?_
  have lp11 : ∀ r (i : Nat) (y : Int32), i + r = 26 → ditF x c r i y = ditF x c 26 0 (drainC x) → WP (d + 2) F_110 11 [.int x, .int (nI c), .int y, .int (nI i)] [] (K, I, L, R, n, s) Q := by
    intro r; induction r with
    | zero =>
      intro i y hi hv0
      have hi2 : i = 26 := by omega
      subst hi2
      refine wp_iload3 (pc' := 12) rfl rfl ?_
      refine wp_bipush (v := nI 25) (pc' := 14) rfl rfl rfl ?_
      refine wp_icmpgtT rfl (nI_lt (by omega) (by omega)) ?_
      refine wp_iconst (v := (-1)) (pc' := 49) rfl rfl rfl ?_
      refine wp_iret rfl rfl rfl ?_
      exact Qv kk hv0 rfl
    | succ r ih =>
      intro i y hi hv0
      have hlt : i < 26 := by omega
      refine wp_iload3 (pc' := 12) rfl rfl ?_
      refine wp_bipush (v := nI 25) (pc' := 14) rfl rfl rfl ?_
      refine wp_icmpgtF (pc' := 17) rfl (nI_nlt (by omega) (by omega)) rfl ?_
      refine wp_iload2 (pc' := 18) rfl rfl ?_
      refine wp_iload1 (pc' := 19) rfl rfl ?_
      refine wp_ishr (pc' := 20) rfl rfl ?_
      refine wp_iconst (v := nI 1) (pc' := 21) rfl rfl rfl ?_
      refine wp_iand (pc' := 22) rfl rfl ?_
      refine wp_iconst (v := nI 1) (pc' := 23) rfl rfl rfl ?_
      refine wp_icmpne (pc' := 26) rfl rfl ?_ ?_
      · intro h23
        refine wp_iload2 (pc' := 29) rfl rfl ?_
        refine wp_iload2 (pc' := 30) rfl rfl ?_
        refine wp_callS1 (pc' := 33) rfl rfl rfl rfl rfl rfl ?_
        refine c_beside ?_
        refine Cont.v ?_
        refine wp_ior (pc' := 34) rfl rfl ?_
        refine wp_pool (v := .int (nI 16777216)) (pc' := 36) rfl rfl rfl rfl rfl ?_
        refine wp_ior (pc' := 37) rfl rfl ?_
        refine wp_iload0 (pc' := 38) rfl rfl ?_
        refine wp_callS2 (pc' := 41) rfl rfl rfl rfl rfl rfl ?_
        refine c_spread ?_
        refine Cont.v ?_
        refine wp_istore2 (pc' := 42) rfl (by first | rfl | assumption) rfl ?_
        first | refine wp_iinc3 (w := nI 1) (pc' := 45) rfl rfl rfl (by with_reducible exact nI_add _ _) rfl ?_ | refine wp_iinc3 (w := nI 1) (pc' := 45) rfl rfl rfl rfl rfl ?_
        refine wp_goto rfl ?_
        exact WP.cg (ih (i + 1) (ditS x y) (by omega) (by rw [ditF, if_neg (by first | assumption)] at hv0; exact hv0)) (lI1 (by first | with_reducible rfl | rfl) (lI1 (by first | with_reducible rfl | rfl) (lI1 (by first | with_reducible rfl | rfl) (lI1 (by first | with_reducible rfl | rfl) rfl)))) rfl (by first | with_reducible rfl | (simp only [forN, *, ↓reduceIte, not_true_eq_false, not_false_eq_true, and_self, and_true, true_and, and_false, false_and]; done) | rfl | (simp_all [forN]; done))
      · intro h23
        refine wp_iload3 (pc' := 27) rfl rfl ?_
        refine wp_iret rfl rfl rfl ?_
        exact Qv kk (by rw [ditF, if_pos (by first | assumption)] at hv0; exact hv0) rfl
  exact WP.cg (lp11 (26 - (0)) (0) (drainC x) (by omega) rfl) (lI1 (by first | with_reducible rfl | rfl) (lI1 (by first | with_reducible rfl | rfl) (lI1 (by first | with_reducible rfl | rfl) (lI1 (by first | with_reducible rfl | rfl) rfl)))) rfl (by first | with_reducible rfl | (simp only [forN, *, ↓reduceIte, not_true_eq_false, not_false_eq_true, and_self, and_true, true_and, and_false, false_and]; done) | rfl | (simp_all [forN]; done))
theorem c_fill {d : Nat} {K : Nat → Nat × Nat} {I : Nat → Nat → Int32} {L : Nat → Nat → Int64} {R : Nat → Nat → Option Nat} {n s : Nat} {Q : Lo → Lm → Prop} {a w : Nat} {v : Int32} (ha : K a = (50, w)) (hw : w < 2 ^ 31) (han : a < n) (kk : Q (.inl none) (K, upr I a (fillR w v (I a)), L, R, n, s)) : Ok (d + 1) 3 [.ref a, .int v] (K, I, L, R, n, s) Q := by
  refine Ok.enter (F := F_3) (ls := [.ref a, .int v, lDead, lDead]) rfl rfl ?_
  refine wp_iconst (v := nI 0) (pc' := 1) rfl rfl rfl ?_
  refine wp_istore2 (pc' := 2) rfl (by first | rfl | assumption) rfl ?_
  refine wp_aload0 (pc' := 3) rfl rfl ?_
  refine wp_alen (pc' := 4) rfl (by assumption) rfl rfl rfl ?_
  refine wp_istore3 (pc' := 5) rfl (by first | rfl | assumption) rfl ?_
  have lp5 : ∀ r (i : Nat), i + r = w → WP d F_3 5 [.ref a, .int v, .int (nI i), .int (nI w)] [] (K, upr I a (fillR i v (I a)), L, R, n, s) Q := by
    intro r; induction r with
    | zero =>
      intro i hi 
      have hi2 : i = w := by omega
      subst hi2
      refine wp_iload2 (pc' := 6) rfl rfl ?_
      refine wp_iload3 (pc' := 7) rfl rfl ?_
      refine wp_icmpgeT rfl (nI_nlt (by omega) (by omega)) ?_
      refine wp_vret rfl rfl ?_
      exact kk
    | succ r ih =>
      intro i hi 
      have hlt : i < w := by omega
      refine wp_iload2 (pc' := 6) rfl rfl ?_
      refine wp_iload3 (pc' := 7) rfl rfl ?_
      refine wp_icmpgeF (pc' := 10) rfl (nI_lt (by omega) (by omega)) rfl ?_
      refine wp_aload0 (pc' := 11) rfl rfl ?_
      refine wp_iload2 (pc' := 12) rfl rfl ?_
      refine wp_iload1 (pc' := 13) rfl rfl ?_
      refine wp_iast _ (pc' := 14) rfl (by assumption) (by omega) (by with_reducible rfl) (by omega) (by first | decide | assumption | omega) rfl ?_
      first | refine wp_iinc2 (w := nI 1) (pc' := 17) rfl rfl rfl (by with_reducible exact nI_add _ _) rfl ?_ | refine wp_iinc2 (w := nI 1) (pc' := 17) rfl rfl rfl rfl rfl ?_
      refine wp_goto rfl ?_
      exact WP.cg (ih (i + 1) (by omega)) (lC1 (lI1 (by rfl) (lI1 (by rfl) (lI1 (by rfl) rfl)))) rfl (by rw [up2_upr, fillR_s])
  exact WP.cg (lp5 (w - (0)) (0) (by omega)) (lC1 (lI1 (by rfl) (lI1 (by rfl) (lI1 (by rfl) rfl)))) rfl (by rw [fillR_0, upr_id])
theorem c_rankAll {d : Nat} {K : Nat → Nat × Nat} {I : Nat → Nat → Int32} {L : Nat → Nat → Int64} {R : Nat → Nat → Option Nat} {n s : Nat} {Q : Lo → Lm → Prop} {b : Nat} {o : LawT} (hT : TK K R n) (hb : StK K R n b) (hb2 : b + 12 ≤ 47) (hlo : LO K R n I b o) (hw : LOw o) (kk : Q (.inl none) (K, rankM I b o, L, R, n, s)) : Ok (d + 5) 112 [.ref 46, .ref b] (K, I, L, R, n, s) Q := by
  obtain ⟨-, -, hn⟩ := id hT
  have kb := hb.1
  refine Ok.enter (F := F_112) (ls := [.ref 46, .ref b, lDead, lDead, lDead, lDead, lDead]) rfl rfl ?_
  refine wp_aload1 (pc' := 1) rfl rfl ?_
  refine wp_callV1 (pc' := 4) rfl rfl rfl rfl rfl (by first | exact TK.k1 hT rfl | exact TK.kk hT rfl | exact TK.r hT rfl | assumption) rfl rfl ?_
  refine c_drained hb ?_
  refine Cont.v ?_
  refine wp_istore2 (pc' := 5) rfl (by first | rfl | assumption) rfl ?_
  refine wp_iconst (v := nI 0) (pc' := 6) rfl rfl rfl ?_
  refine wp_istore3 (pc' := 7) rfl (by first | rfl | assumption) rfl ?_
  have lp7 : ∀ r (i : Nat) (v4 : Value) (v5 : Value) (v6 : Value), i + r = 25 → isL v4 = false → isL v5 = false → isL v6 = false → WP (d + 4) F_112 7 [.ref 46, .ref b, .int (drainC (I b 11)), .int (nI i), v4, v5, v6] [] (K, rk1M I b (drainC (I b 11)) o i, L, R, n, s) Q := by
    intro r; induction r with
    | zero =>
      intro i v4 v5 v6 hi hv0 hv1 hv2
      have hi2 : i = 25 := by omega
      subst hi2
      refine wp_iload3 (pc' := 8) rfl rfl ?_
      refine wp_bipush (v := nI 25) (pc' := 10) rfl rfl rfl ?_
      refine wp_icmpgeT rfl (nI_nlt (by omega) (by omega)) ?_
      generalize hM : rk1M I b (drainC (I b 11)) o 25 = M
      refine wp_iconst (v := nI 1) (pc' := 57) rfl rfl rfl ?_
      refine wp_istore3 (pc' := 58) rfl (by first | rfl | assumption) rfl ?_
      refine wp_iconst (v := nI 0) (pc' := 59) rfl rfl rfl ?_
      refine wp_istore4 (pc' := 61) rfl (by first | rfl | assumption) rfl ?_
      have lp61 : ∀ rb (i : Nat) (v5 : Value) (v6 : Value), i + rb = 25 → isL v5 = false → isL v6 = false → WP (d + 4) F_112 61 [.ref 46, .ref b, .int (drainC (I b 11)), .int (rlO (rkF (M 48)) 5 20 (M 47) i).2, .int (nI i), v5, v6] [] (K, upr M 47 (rlO (rkF (M 48)) 5 20 (M 47) i).1, L, R, n, s) Q := by
        intro rb; induction rb with
        | zero =>
          intro i v5 v6 hib hvb0 hvb1
          have hi2b : i = 25 := by omega
          subst hi2b
          refine wp_iload4 (pc' := 63) rfl rfl ?_
          refine wp_bipush (v := nI 25) (pc' := 65) rfl rfl rfl ?_
          refine wp_icmpgeT rfl (nI_nlt (by omega) (by omega)) ?_
          refine wp_vret rfl rfl ?_
          exact Qu kk (mI1 (by unfold rankM rlV; rw [hM]))
        | succ rb ihb =>
          intro i v5 v6 hib hvb0 hvb1
          have hltb : i < 25 := by omega
          have hsx : rlO (rkF (M 48)) 5 20 (M 47) (i + 1) = rlX (rkF (M 48)) 5 20 (rlO (rkF (M 48)) 5 20 (M 47) i) := rfl
          obtain ⟨g, be, hp⟩ : ∃ g be, rlO (rkF (M 48)) 5 20 (M 47) i = (g, be) := ⟨_, _, rfl⟩
          rw [hp] at hsx ⊢
          dsimp only
          refine wp_iload4 (pc' := 63) rfl rfl ?_
          refine wp_bipush (v := nI 25) (pc' := 65) rfl rfl rfl ?_
          refine wp_icmpgeF (pc' := 68) rfl (nI_lt (by omega) (by omega)) rfl ?_
          refine wp_iload3 (pc' := 69) rfl rfl ?_
          first | refine wp_ifeqB (pc' := 72) rfl rfl ?_ ?_ | refine wp_ifeq (pc' := 72) rfl rfl ?_ ?_
          · intro h69
            refine wp_vret rfl rfl ?_
            exact Qu kk (mI1 (by unfold rankM rlV; rw [hM, rlO_stay (i := i) (by rw [hp]; exact h69) (by omega), hp]))
          · intro h69
            refine wp_iconst (v := nI 0) (pc' := 73) rfl rfl rfl ?_
            refine wp_istore3 (pc' := 74) rfl (by first | rfl | assumption) rfl ?_
            refine wp_iconst (v := nI 5) (pc' := 75) rfl rfl rfl ?_
            refine wp_istore5 (pc' := 77) rfl (by first | rfl | assumption) rfl ?_
            have lp77 : ∀ rc (j : Nat) (v6 : Value), j + rc = 25 → 5 ≤ j → isL v6 = false → WP (d + 4) F_112 77 [.ref 46, .ref b, .int (drainC (I b 11)), .int (rlI (rkF (M 48)) 5 (g, nI 0) (j - 5)).2, .int (nI i), .int (nI j), v6] [] (K, upr M 47 (rlI (rkF (M 48)) 5 (g, nI 0) (j - 5)).1, L, R, n, s) Q := by
              intro rc; induction rc with
              | zero =>
                intro j v6 hic hvc0 hvc1
                have hi2c : j = 25 := by omega
                subst hi2c
                refine wp_iload5 (pc' := 79) rfl rfl ?_
                refine wp_bipush (v := nI 25) (pc' := 81) rfl rfl rfl ?_
                refine wp_icmpgeT rfl (nI_nlt (by omega) (by omega)) ?_
                first | refine wp_iinc4 (w := nI 1) (pc' := 140) rfl rfl rfl (by with_reducible exact nI_add _ _) rfl ?_ | refine wp_iinc4 (w := nI 1) (pc' := 140) rfl rfl rfl rfl rfl ?_
                refine wp_goto rfl ?_
                exact WP.cg (ihb (i + 1) _ _ (by omega) (by first | rfl | assumption) (by first | rfl | assumption)) (lC1 (lC1 (lI1 (by first | with_reducible rfl | (rw [hsx, rlX, if_neg h69])) (lI1 (by first | with_reducible rfl | (rw [hsx, rlX, if_neg h69])) (lI1 (by first | with_reducible rfl | (rw [hsx, rlX, if_neg h69])) (lC1 (lC1 rfl))))))) rfl (by rw [hsx, rlX, if_neg h69])
              | succ rc ihc =>
                intro j v6 hic hvc0 hvc1
                have hltc : j < 25 := by omega
                have hz : j + 1 - 5 = (j - 5) + 1 := by omega
                have hy : 5 + (j - 5) = j := by omega
                have hsy : rlI (rkF (M 48)) 5 (g, nI 0) (j - 5 + 1) = rlS (rkF (M 48)) j (rlI (rkF (M 48)) 5 (g, nI 0) (j - 5)) := by
                  show rlS (rkF (M 48)) (5 + (j - 5)) _ = _; rw [hy]; rfl
                obtain ⟨g2, b2, hp2⟩ : ∃ g2 b2, rlI (rkF (M 48)) 5 (g, nI 0) (j - 5) = (g2, b2) := ⟨_, _, rfl⟩
                rw [hp2] at hsy ⊢
                dsimp only
                refine wp_iload5 (pc' := 79) rfl rfl ?_
                refine wp_bipush (v := nI 25) (pc' := 81) rfl rfl rfl ?_
                refine wp_icmpgeF (pc' := 84) rfl (nI_lt (by omega) (by omega)) rfl ?_
                refine wp_aload0 (pc' := 85) rfl rfl ?_
                refine wp_getRF (pc' := 88) rfl rfl (by first | exact TK.k1 hT rfl | exact TK.kk hT rfl | exact TK.r hT rfl | assumption) (by first | exact TK.k1 hT rfl | exact TK.kk hT rfl | exact TK.r hT rfl | assumption) rfl ?_
                refine wp_iload5 (pc' := 90) rfl rfl ?_
                refine wp_callS2 (pc' := 93) rfl rfl rfl rfl rfl rfl ?_
                refine c_lb (TK.kk hT rfl) (by omega) ?_
                refine Cont.v ?_
                rw [upr_same]
                refine wp_aload0 (pc' := 94) rfl rfl ?_
                refine wp_getRF (pc' := 97) rfl rfl (by first | exact TK.k1 hT rfl | exact TK.kk hT rfl | exact TK.r hT rfl | assumption) (by first | exact TK.k1 hT rfl | exact TK.kk hT rfl | exact TK.r hT rfl | assumption) rfl ?_
                refine wp_iload5 (pc' := 99) rfl rfl ?_
                refine wp_iald _ (pc' := 100) rfl (by first | exact TK.k1 hT rfl | exact TK.kk hT rfl | exact TK.r hT rfl | assumption) (by with_reducible rfl) (by omega) (by first | decide | assumption | omega) rfl ?_
                rw [upr_ne (show 48 ≠ 47 by decide)]
                refine wp_bipush (v := nI 32) (pc' := 102) rfl rfl rfl ?_
                first | refine wp_imulN (pc' := 103) rfl (by with_reducible rfl) (by with_reducible rfl) rfl ?_ | refine wp_imul (pc' := 103) rfl rfl ?_
                first | refine wp_iaddN (pc' := 104) rfl (by with_reducible rfl) (by with_reducible rfl) rfl ?_ | refine wp_iadd (pc' := 104) rfl rfl ?_
                refine wp_iconst (v := nI 1) (pc' := 105) rfl rfl rfl ?_
                first | refine wp_iaddN (pc' := 106) rfl (by with_reducible rfl) (by with_reducible rfl) rfl ?_ | refine wp_iadd (pc' := 106) rfl rfl ?_
                refine wp_istore6 (pc' := 108) rfl (by first | rfl | assumption) rfl ?_
                refine wp_iload6 (pc' := 110) rfl rfl ?_
                refine wp_aload0 (pc' := 111) rfl rfl ?_
                refine wp_getRF (pc' := 114) rfl rfl (by first | exact TK.k1 hT rfl | exact TK.kk hT rfl | exact TK.r hT rfl | assumption) (by first | exact TK.k1 hT rfl | exact TK.kk hT rfl | exact TK.r hT rfl | assumption) rfl ?_
                refine wp_iload5 (pc' := 116) rfl rfl ?_
                refine wp_iald _ (pc' := 117) rfl (by first | exact TK.k1 hT rfl | exact TK.kk hT rfl | exact TK.r hT rfl | assumption) (by with_reducible rfl) (by omega) (by first | decide | assumption | omega) rfl ?_
                rw [upr_same]
                refine wp_icmpge (pc' := 120) rfl rfl ?_ ?_
                · intro h117
                  first | refine wp_iinc5 (w := nI 1) (pc' := 134) rfl rfl rfl (by with_reducible exact nI_add _ _) rfl ?_ | refine wp_iinc5 (w := nI 1) (pc' := 134) rfl rfl rfl rfl rfl ?_
                  refine wp_goto rfl ?_
                  exact WP.cg (ihc (j + 1) _ (by omega) (by omega) (by first | rfl | assumption)) (lC1 (lC1 (lI1 (by first | with_reducible rfl | (rw [hz, hsy, rlS]; first | rw [if_pos (show rkF (M 48) j (lbC (g2, b2).1 j) < (g2, b2).1 j from h117)] | rw [if_neg (show ¬ rkF (M 48) j (lbC (g2, b2).1 j) < (g2, b2).1 j from h117)])) (lI1 (by first | with_reducible rfl | (rw [hz, hsy, rlS]; first | rw [if_pos (show rkF (M 48) j (lbC (g2, b2).1 j) < (g2, b2).1 j from h117)] | rw [if_neg (show ¬ rkF (M 48) j (lbC (g2, b2).1 j) < (g2, b2).1 j from h117)])) (lI1 (by first | with_reducible rfl | (rw [hz, hsy, rlS]; first | rw [if_pos (show rkF (M 48) j (lbC (g2, b2).1 j) < (g2, b2).1 j from h117)] | rw [if_neg (show ¬ rkF (M 48) j (lbC (g2, b2).1 j) < (g2, b2).1 j from h117)])) (lI1 (by first | with_reducible rfl | (rw [hz, hsy, rlS]; first | rw [if_pos (show rkF (M 48) j (lbC (g2, b2).1 j) < (g2, b2).1 j from h117)] | rw [if_neg (show ¬ rkF (M 48) j (lbC (g2, b2).1 j) < (g2, b2).1 j from h117)])) (lC1 rfl))))))) rfl (by first | (rw [hz, hsy, rlS, if_pos (show rkF (M 48) j (lbC (g2, b2).1 j) < (g2, b2).1 j from h117), up2_upr]; rfl) | rw [hz, hsy, rlS, if_neg (show ¬ rkF (M 48) j (lbC (g2, b2).1 j) < (g2, b2).1 j from h117)])
                · intro h117
                  refine wp_aload0 (pc' := 121) rfl rfl ?_
                  refine wp_getRF (pc' := 124) rfl rfl (by first | exact TK.k1 hT rfl | exact TK.kk hT rfl | exact TK.r hT rfl | assumption) (by first | exact TK.k1 hT rfl | exact TK.kk hT rfl | exact TK.r hT rfl | assumption) rfl ?_
                  refine wp_iload5 (pc' := 126) rfl rfl ?_
                  refine wp_iload6 (pc' := 128) rfl rfl ?_
                  refine wp_iast _ (pc' := 129) rfl (by first | exact TK.k1 hT rfl | exact TK.kk hT rfl | exact TK.r hT rfl | assumption) (by omega) (by with_reducible rfl) (by omega) (by first | decide | assumption | omega) rfl ?_
                  refine wp_iconst (v := nI 1) (pc' := 130) rfl rfl rfl ?_
                  refine wp_istore3 (pc' := 131) rfl (by first | rfl | assumption) rfl ?_
                  first | refine wp_iinc5 (w := nI 1) (pc' := 134) rfl rfl rfl (by with_reducible exact nI_add _ _) rfl ?_ | refine wp_iinc5 (w := nI 1) (pc' := 134) rfl rfl rfl rfl rfl ?_
                  refine wp_goto rfl ?_
                  exact WP.cg (ihc (j + 1) _ (by omega) (by omega) (by first | rfl | assumption)) (lC1 (lC1 (lI1 (by first | with_reducible rfl | (rw [hz, hsy, rlS]; first | rw [if_pos (show rkF (M 48) j (lbC (g2, b2).1 j) < (g2, b2).1 j from h117)] | rw [if_neg (show ¬ rkF (M 48) j (lbC (g2, b2).1 j) < (g2, b2).1 j from h117)])) (lI1 (by first | with_reducible rfl | (rw [hz, hsy, rlS]; first | rw [if_pos (show rkF (M 48) j (lbC (g2, b2).1 j) < (g2, b2).1 j from h117)] | rw [if_neg (show ¬ rkF (M 48) j (lbC (g2, b2).1 j) < (g2, b2).1 j from h117)])) (lI1 (by first | with_reducible rfl | (rw [hz, hsy, rlS]; first | rw [if_pos (show rkF (M 48) j (lbC (g2, b2).1 j) < (g2, b2).1 j from h117)] | rw [if_neg (show ¬ rkF (M 48) j (lbC (g2, b2).1 j) < (g2, b2).1 j from h117)])) (lI1 (by first | with_reducible rfl | (rw [hz, hsy, rlS]; first | rw [if_pos (show rkF (M 48) j (lbC (g2, b2).1 j) < (g2, b2).1 j from h117)] | rw [if_neg (show ¬ rkF (M 48) j (lbC (g2, b2).1 j) < (g2, b2).1 j from h117)])) (lC1 rfl))))))) rfl (by first | (rw [hz, hsy, rlS, if_pos (show rkF (M 48) j (lbC (g2, b2).1 j) < (g2, b2).1 j from h117), up2_upr]; rfl) | rw [hz, hsy, rlS, if_neg (show ¬ rkF (M 48) j (lbC (g2, b2).1 j) < (g2, b2).1 j from h117)])
            exact WP.cg (lp77 (25 - (5)) (5) _ (by omega) (by decide) (by first | rfl | assumption)) (lC1 (lC1 (lI1 (by rfl) (lI1 (by rfl) (lI1 (by rfl) (lI1 (by rfl) (lC1 rfl))))))) rfl (by rfl)
      exact WP.cg (lp61 (25 - (0)) (0) _ _ (by omega) (by first | rfl | assumption) (by first | rfl | assumption)) (lC1 (lC1 (lI1 (by rfl) (lI1 (by rfl) (lI1 (by rfl) (lC1 (lC1 rfl))))))) rfl (by exact mI1 upr_id.symm)
    | succ r ih =>
      intro i v4 v5 v6 hi hv0 hv1 hv2
      have hlt : i < 25 := by omega
      have hLJ := LO_rk1 (dr := drainC (I b 11)) hlo hw i
      have hsx : rk1M I b (drainC (I b 11)) o (i + 1) = rk1S b (drainC (I b 11)) o i (rk1M I b (drainC (I b 11)) o i) := rfl
      generalize hJ : rk1M I b (drainC (I b 11)) o i = J at hsx hLJ ⊢
      refine wp_iload3 (pc' := 8) rfl rfl ?_
      refine wp_bipush (v := nI 25) (pc' := 10) rfl rfl rfl ?_
      refine wp_icmpgeF (pc' := 13) rfl (nI_lt (by omega) (by omega)) rfl ?_
      refine wp_aload0 (pc' := 14) rfl rfl ?_
      refine wp_getRF (pc' := 17) rfl rfl (by first | exact TK.k1 hT rfl | exact TK.kk hT rfl | exact TK.r hT rfl | assumption) (by first | exact TK.k1 hT rfl | exact TK.kk hT rfl | exact TK.r hT rfl | assumption) rfl ?_
      refine wp_iload3 (pc' := 18) rfl rfl ?_
      refine wp_aload1 (pc' := 19) rfl rfl ?_
      refine wp_iload3 (pc' := 20) rfl rfl ?_
      refine wp_iload2 (pc' := 21) rfl rfl ?_
      refine wp_callV3 (pc' := 24) rfl rfl rfl rfl rfl (by first | exact TK.k1 hT rfl | exact TK.kk hT rfl | exact TK.r hT rfl | assumption) rfl rfl ?_
      refine c_sinks hb (by omega) hLJ ?_
      refine Cont.v ?_
      refine wp_iast _ (pc' := 25) rfl (by first | exact TK.k1 hT rfl | exact TK.kk hT rfl | exact TK.r hT rfl | assumption) (by omega) (by with_reducible rfl) (by omega) (by first | decide | assumption | omega) rfl ?_
      refine wp_aload0 (pc' := 26) rfl rfl ?_
      refine wp_getRF (pc' := 29) rfl rfl (by first | exact TK.k1 hT rfl | exact TK.kk hT rfl | exact TK.r hT rfl | assumption) (by first | exact TK.k1 hT rfl | exact TK.kk hT rfl | exact TK.r hT rfl | assumption) rfl ?_
      refine wp_iload3 (pc' := 30) rfl rfl ?_
      refine wp_iload3 (pc' := 31) rfl rfl ?_
      refine wp_iconst (v := nI 5) (pc' := 32) rfl rfl rfl ?_
      refine wp_icmpge (pc' := 35) rfl rfl ?_ ?_
      · intro h32
        refine wp_pool (v := .int (nI 1000000)) (pc' := 49) rfl rfl rfl rfl rfl ?_
        refine wp_iast _ (pc' := 50) rfl (by first | exact TK.k1 hT rfl | exact TK.kk hT rfl | exact TK.r hT rfl | assumption) (by omega) (by with_reducible rfl) (by omega) (by first | decide | assumption | omega) rfl ?_
        first | refine wp_iinc3 (w := nI 1) (pc' := 53) rfl rfl rfl (by with_reducible exact nI_add _ _) rfl ?_ | refine wp_iinc3 (w := nI 1) (pc' := 53) rfl rfl rfl rfl rfl ?_
        refine wp_goto rfl ?_
        exact WP.cg (ih (i + 1) _ _ _ (by omega) (by first | rfl | assumption) (by first | rfl | assumption) (by first | rfl | assumption)) (lC1 (lC1 (lI1 (by rfl) (lI1 (by rfl) (lC1 (lC1 (lC1 rfl))))))) rfl (by rw [hsx]; simp only [rk1S, h32, ↓reduceIte])
      · intro h32
        refine wp_aload0 (pc' := 36) rfl rfl ?_
        refine wp_getRF (pc' := 39) rfl rfl (by first | exact TK.k1 hT rfl | exact TK.kk hT rfl | exact TK.r hT rfl | assumption) (by first | exact TK.k1 hT rfl | exact TK.kk hT rfl | exact TK.r hT rfl | assumption) rfl ?_
        refine wp_iload3 (pc' := 40) rfl rfl ?_
        refine wp_iald _ (pc' := 41) rfl (by first | exact TK.k1 hT rfl | exact TK.kk hT rfl | exact TK.r hT rfl | assumption) (by with_reducible rfl) (by omega) (by first | decide | assumption | omega) rfl ?_
        rw [up2_hit]
        refine wp_bipush (v := nI 32) (pc' := 43) rfl rfl rfl ?_
        first | refine wp_imulN (pc' := 44) rfl (by with_reducible rfl) (by with_reducible rfl) rfl ?_ | refine wp_imul (pc' := 44) rfl rfl ?_
        refine wp_goto rfl ?_
        refine wp_iast _ (pc' := 50) rfl (by first | exact TK.k1 hT rfl | exact TK.kk hT rfl | exact TK.r hT rfl | assumption) (by omega) (by with_reducible rfl) (by omega) (by first | decide | assumption | omega) rfl ?_
        first | refine wp_iinc3 (w := nI 1) (pc' := 53) rfl rfl rfl (by with_reducible exact nI_add _ _) rfl ?_ | refine wp_iinc3 (w := nI 1) (pc' := 53) rfl rfl rfl rfl rfl ?_
        refine wp_goto rfl ?_
        exact WP.cg (ih (i + 1) _ _ _ (by omega) (by first | rfl | assumption) (by first | rfl | assumption) (by first | rfl | assumption)) (lC1 (lC1 (lI1 (by rfl) (lI1 (by rfl) (lC1 (lC1 (lC1 rfl))))))) rfl (by rw [hsx]; simp only [rk1S, h32, ↓reduceIte])
  exact WP.cg (lp7 (25 - (0)) (0) _ _ _ (by omega) (by first | rfl | assumption) (by first | rfl | assumption) (by first | rfl | assumption)) (lC1 (lC1 (lI1 (by rfl) (lI1 (by rfl) (lC1 (lC1 (lC1 rfl))))))) rfl (by rfl)
theorem c_leastSinks {d : Nat} {K : Nat → Nat × Nat} {I : Nat → Nat → Int32} {L : Nat → Nat → Int64} {R : Nat → Nat → Option Nat} {n s : Nat} {Q : Lo → Lm → Prop} {b c : Nat} {o : LawT} (hT : TK K R n) (hb : StK K R n b) (hb2 : b + 12 ≤ 47) (hlo : LO K R n I b o) (hw : LOw o) (hc : c < 25) (kk : Q (.inl (some (.int (rankM I b o 47 c / nI 32)))) (K, rankM I b o, L, R, n, s)) : Ok (d + 6) 111 [.ref 46, .ref b, .int (nI c)] (K, I, L, R, n, s) Q := by
  obtain ⟨-, -, hn⟩ := id hT
  have kb := hb.1
  refine Ok.enter (F := F_111) (ls := [.ref 46, .ref b, .int (nI c)]) rfl rfl ?_
  refine wp_aload0 (pc' := 1) rfl rfl ?_
  refine wp_aload1 (pc' := 2) rfl rfl ?_
  refine wp_callV2 (pc' := 5) rfl rfl rfl rfl rfl (by first | exact TK.k1 hT rfl | exact TK.kk hT rfl | exact TK.r hT rfl | assumption) rfl rfl ?_
  refine c_rankAll hT hb hb2 hlo hw ?_
  refine Cont.u ?_
  refine wp_aload0 (pc' := 6) rfl rfl ?_
  refine wp_getRF (pc' := 9) rfl rfl (by first | exact TK.k1 hT rfl | exact TK.kk hT rfl | exact TK.r hT rfl | assumption) (by first | exact TK.k1 hT rfl | exact TK.kk hT rfl | exact TK.r hT rfl | assumption) rfl ?_
  refine wp_iload2 (pc' := 10) rfl rfl ?_
  refine wp_iald _ (pc' := 11) rfl (by first | exact TK.k1 hT rfl | exact TK.kk hT rfl | exact TK.r hT rfl | assumption) (by with_reducible rfl) (by omega) (by first | decide | assumption | omega) rfl ?_
  refine wp_bipush (v := nI 32) (pc' := 13) rfl rfl rfl ?_
  first | refine wp_idivN (pc' := 14) rfl (by with_reducible rfl) (by with_reducible rfl) (by omega) (by omega) (by omega) rfl ?_ | refine wp_idiv (pc' := 14) rfl (by decide) rfl ?_
  refine wp_iret rfl rfl rfl ?_
  exact kk
theorem c_fewestSteps {d : Nat} {K : Nat → Nat × Nat} {I : Nat → Nat → Int32} {L : Nat → Nat → Int64} {R : Nat → Nat → Option Nat} {n s : Nat} {Q : Lo → Lm → Prop} {b c : Nat} {o : LawT} (hT : TK K R n) (hb : StK K R n b) (hb2 : b + 12 ≤ 47) (hlo : LO K R n I b o) (hw : LOw o) (hc : c < 25) (kk : Q (.inl (some (.int (jrem (rankM I b o 47 c) (nI 32))))) (K, rankM I b o, L, R, n, s)) : Ok (d + 6) 115 [.ref 46, .ref b, .int (nI c)] (K, I, L, R, n, s) Q := by
  obtain ⟨-, -, hn⟩ := id hT
  have kb := hb.1
  refine Ok.enter (F := F_115) (ls := [.ref 46, .ref b, .int (nI c)]) rfl rfl ?_
  refine wp_aload0 (pc' := 1) rfl rfl ?_
  refine wp_aload1 (pc' := 2) rfl rfl ?_
  refine wp_callV2 (pc' := 5) rfl rfl rfl rfl rfl (by first | exact TK.k1 hT rfl | exact TK.kk hT rfl | exact TK.r hT rfl | assumption) rfl rfl ?_
  refine c_rankAll hT hb hb2 hlo hw ?_
  refine Cont.u ?_
  refine wp_aload0 (pc' := 6) rfl rfl ?_
  refine wp_getRF (pc' := 9) rfl rfl (by first | exact TK.k1 hT rfl | exact TK.kk hT rfl | exact TK.r hT rfl | assumption) (by first | exact TK.k1 hT rfl | exact TK.kk hT rfl | exact TK.r hT rfl | assumption) rfl ?_
  refine wp_iload2 (pc' := 10) rfl rfl ?_
  refine wp_iald _ (pc' := 11) rfl (by first | exact TK.k1 hT rfl | exact TK.kk hT rfl | exact TK.r hT rfl | assumption) (by with_reducible rfl) (by omega) (by first | decide | assumption | omega) rfl ?_
  refine wp_bipush (v := nI 32) (pc' := 13) rfl rfl rfl ?_
  first | refine wp_iremN (pc' := 14) rfl (by with_reducible rfl) (by with_reducible rfl) (by omega) (by omega) (by omega) rfl ?_ | refine wp_irem (pc' := 14) rfl (by decide) rfl ?_
  refine wp_iret rfl rfl rfl ?_
  exact kk
theorem c_growNet {d : Nat} {K : Nat → Nat × Nat} {I : Nat → Nat → Int32} {L : Nat → Nat → Int64} {R : Nat → Nat → Option Nat} {n s : Nat} {Q : Lo → Lm → Prop} {a : Nat} {x : Int32} (ha : K a = (50, 25)) (han : a < n) (kk : Q (.inl none) (K, upr I a (rlV (gnF x) 0 25 (I a)), L, R, n, s)) : Ok (d + 3) 149 [.ref a, .int x] (K, I, L, R, n, s) Q := by
  refine Ok.enter (F := F_149) (ls := [.ref a, .int x, lDead, lDead, lDead, lDead]) rfl rfl ?_
  refine wp_iconst (v := nI 1) (pc' := 1) rfl rfl rfl ?_
  refine wp_istore2 (pc' := 2) rfl (by first | rfl | assumption) rfl ?_
  refine wp_iconst (v := nI 0) (pc' := 3) rfl rfl rfl ?_
  refine wp_istore3 (pc' := 4) rfl (by first | rfl | assumption) rfl ?_
  have lp4 : ∀ r (i : Nat) (v4 : Value) (v5 : Value), i + r = 25 → isL v4 = false → isL v5 = false → WP (d + 2) F_149 4 [.ref a, .int x, .int (rlO (gnF x) 0 25 (I a) i).2, .int (nI i), v4, v5] [] (K, upr I a (rlO (gnF x) 0 25 (I a) i).1, L, R, n, s) Q := by
    intro r; induction r with
    | zero =>
      intro i v4 v5 hi hv0 hv1
      have hi2 : i = 25 := by omega
      subst hi2
      refine wp_iload3 (pc' := 5) rfl rfl ?_
      refine wp_bipush (v := nI 25) (pc' := 7) rfl rfl rfl ?_
      refine wp_icmpgeT rfl (nI_nlt (by omega) (by omega)) ?_
      refine wp_vret rfl rfl ?_
      exact Qu kk rfl
    | succ r ih =>
      intro i v4 v5 hi hv0 hv1
      have hlt : i < 25 := by omega
      have hsx : rlO (gnF x) 0 25 (I a) (i + 1) = rlX (gnF x) 0 25 (rlO (gnF x) 0 25 (I a) i) := rfl
      obtain ⟨g, be, hp⟩ : ∃ g be, rlO (gnF x) 0 25 (I a) i = (g, be) := ⟨_, _, rfl⟩
      rw [hp] at hsx ⊢
      dsimp only
      refine wp_iload3 (pc' := 5) rfl rfl ?_
      refine wp_bipush (v := nI 25) (pc' := 7) rfl rfl rfl ?_
      refine wp_icmpgeF (pc' := 10) rfl (nI_lt (by omega) (by omega)) rfl ?_
      refine wp_iload2 (pc' := 11) rfl rfl ?_
      first | refine wp_ifeqB (pc' := 14) rfl rfl ?_ ?_ | refine wp_ifeq (pc' := 14) rfl rfl ?_ ?_
      · intro h11
        refine wp_vret rfl rfl ?_
        exact Qu kk (mI1 (by unfold rlV; rw [rlO_stay (i := i) (by rw [hp]; exact h11) (by omega), hp]))
      · intro h11
        refine wp_iconst (v := nI 0) (pc' := 15) rfl rfl rfl ?_
        refine wp_istore2 (pc' := 16) rfl (by first | rfl | assumption) rfl ?_
        refine wp_iconst (v := nI 0) (pc' := 17) rfl rfl rfl ?_
        refine wp_istore4 (pc' := 19) rfl (by first | rfl | assumption) rfl ?_
        have lp19 : ∀ rb (j : Nat) (v5 : Value), j + rb = 25 → isL v5 = false → WP (d + 2) F_149 19 [.ref a, .int x, .int (rlI (gnF x) 0 (g, nI 0) j).2, .int (nI i), .int (nI j), v5] [] (K, upr I a (rlI (gnF x) 0 (g, nI 0) j).1, L, R, n, s) Q := by
          intro rb; induction rb with
          | zero =>
            intro j v5 hib hvb0
            have hi2b : j = 25 := by omega
            subst hi2b
            refine wp_iload4 (pc' := 21) rfl rfl ?_
            refine wp_bipush (v := nI 25) (pc' := 23) rfl rfl rfl ?_
            refine wp_icmpgeT rfl (nI_nlt (by omega) (by omega)) ?_
            first | refine wp_iinc3 (w := nI 1) (pc' := 69) rfl rfl rfl (by with_reducible exact nI_add _ _) rfl ?_ | refine wp_iinc3 (w := nI 1) (pc' := 69) rfl rfl rfl rfl rfl ?_
            refine wp_goto rfl ?_
            exact WP.cg (ih (i + 1) _ _ (by omega) (by first | rfl | assumption) (by first | rfl | assumption)) (lC1 (lI1 (by first | with_reducible rfl | (rw [hsx, rlX, if_neg h11])) (lI1 (by first | with_reducible rfl | (rw [hsx, rlX, if_neg h11])) (lI1 (by first | with_reducible rfl | (rw [hsx, rlX, if_neg h11])) (lC1 (lC1 rfl)))))) rfl (by rw [hsx, rlX, if_neg h11])
          | succ rb ihb =>
            intro j v5 hib hvb0
            have hltb : j < 25 := by omega
            have hsy : rlI (gnF x) 0 (g, nI 0) (j + 1) = rlS (gnF x) j (rlI (gnF x) 0 (g, nI 0) j) := by
              show rlS (gnF x) (0 + j) _ = _; rw [Nat.zero_add]; rfl
            obtain ⟨g2, b2, hp2⟩ : ∃ g2 b2, rlI (gnF x) 0 (g, nI 0) j = (g2, b2) := ⟨_, _, rfl⟩
            rw [hp2] at hsy ⊢
            dsimp only
            refine wp_iload4 (pc' := 21) rfl rfl ?_
            refine wp_bipush (v := nI 25) (pc' := 23) rfl rfl rfl ?_
            refine wp_icmpgeF (pc' := 26) rfl (nI_lt (by omega) (by omega)) rfl ?_
            refine wp_aload0 (pc' := 27) rfl rfl ?_
            refine wp_iload4 (pc' := 29) rfl rfl ?_
            refine wp_callS2 (pc' := 32) rfl rfl rfl rfl rfl rfl ?_
            refine c_lb ha (by omega) ?_
            refine Cont.v ?_
            rw [upr_same]
            refine wp_iconst (v := nI 1) (pc' := 33) rfl rfl rfl ?_
            first | refine wp_iaddN (pc' := 34) rfl (by with_reducible rfl) (by with_reducible rfl) rfl ?_ | refine wp_iadd (pc' := 34) rfl rfl ?_
            refine wp_iload1 (pc' := 35) rfl rfl ?_
            refine wp_iload4 (pc' := 37) rfl rfl ?_
            refine wp_ishr (pc' := 38) rfl rfl ?_
            refine wp_iconst (v := nI 1) (pc' := 39) rfl rfl rfl ?_
            refine wp_iand (pc' := 40) rfl rfl ?_
            first | refine wp_isubN (pc' := 41) rfl (by with_reducible rfl) (by with_reducible rfl) (by omega) rfl ?_ | refine wp_isub (pc' := 41) rfl rfl ?_
            refine wp_istore5 (pc' := 43) rfl (by first | rfl | assumption) rfl ?_
            refine wp_iload5 (pc' := 45) rfl rfl ?_
            refine wp_aload0 (pc' := 46) rfl rfl ?_
            refine wp_iload4 (pc' := 48) rfl rfl ?_
            refine wp_iald _ (pc' := 49) rfl (by assumption) (by with_reducible rfl) (by omega) (by first | decide | assumption | omega) rfl ?_
            rw [upr_same]
            refine wp_icmpge (pc' := 52) rfl rfl ?_ ?_
            · intro h49
              first | refine wp_iinc4 (w := nI 1) (pc' := 63) rfl rfl rfl (by with_reducible exact nI_add _ _) rfl ?_ | refine wp_iinc4 (w := nI 1) (pc' := 63) rfl rfl rfl rfl rfl ?_
              refine wp_goto rfl ?_
              exact WP.cg (ihb (j + 1) _ (by omega) (by first | rfl | assumption)) (lC1 (lI1 (by first | with_reducible rfl | (rw [hsy, rlS]; first | rw [if_pos (show gnF x j (lbC (g2, b2).1 j) < (g2, b2).1 j from h49)] | rw [if_neg (show ¬ gnF x j (lbC (g2, b2).1 j) < (g2, b2).1 j from h49)])) (lI1 (by first | with_reducible rfl | (rw [hsy, rlS]; first | rw [if_pos (show gnF x j (lbC (g2, b2).1 j) < (g2, b2).1 j from h49)] | rw [if_neg (show ¬ gnF x j (lbC (g2, b2).1 j) < (g2, b2).1 j from h49)])) (lI1 (by first | with_reducible rfl | (rw [hsy, rlS]; first | rw [if_pos (show gnF x j (lbC (g2, b2).1 j) < (g2, b2).1 j from h49)] | rw [if_neg (show ¬ gnF x j (lbC (g2, b2).1 j) < (g2, b2).1 j from h49)])) (lI1 (by first | with_reducible rfl | (rw [hsy, rlS]; first | rw [if_pos (show gnF x j (lbC (g2, b2).1 j) < (g2, b2).1 j from h49)] | rw [if_neg (show ¬ gnF x j (lbC (g2, b2).1 j) < (g2, b2).1 j from h49)])) (lC1 rfl)))))) rfl (by first | (rw [hsy, rlS, if_pos (show gnF x j (lbC (g2, b2).1 j) < (g2, b2).1 j from h49), up2_upr]; rfl) | rw [hsy, rlS, if_neg (show ¬ gnF x j (lbC (g2, b2).1 j) < (g2, b2).1 j from h49)])
            · intro h49
              refine wp_aload0 (pc' := 53) rfl rfl ?_
              refine wp_iload4 (pc' := 55) rfl rfl ?_
              refine wp_iload5 (pc' := 57) rfl rfl ?_
              refine wp_iast _ (pc' := 58) rfl (by assumption) (by omega) (by with_reducible rfl) (by omega) (by first | decide | assumption | omega) rfl ?_
              refine wp_iconst (v := nI 1) (pc' := 59) rfl rfl rfl ?_
              refine wp_istore2 (pc' := 60) rfl (by first | rfl | assumption) rfl ?_
              first | refine wp_iinc4 (w := nI 1) (pc' := 63) rfl rfl rfl (by with_reducible exact nI_add _ _) rfl ?_ | refine wp_iinc4 (w := nI 1) (pc' := 63) rfl rfl rfl rfl rfl ?_
              refine wp_goto rfl ?_
              exact WP.cg (ihb (j + 1) _ (by omega) (by first | rfl | assumption)) (lC1 (lI1 (by first | with_reducible rfl | (rw [hsy, rlS]; first | rw [if_pos (show gnF x j (lbC (g2, b2).1 j) < (g2, b2).1 j from h49)] | rw [if_neg (show ¬ gnF x j (lbC (g2, b2).1 j) < (g2, b2).1 j from h49)])) (lI1 (by first | with_reducible rfl | (rw [hsy, rlS]; first | rw [if_pos (show gnF x j (lbC (g2, b2).1 j) < (g2, b2).1 j from h49)] | rw [if_neg (show ¬ gnF x j (lbC (g2, b2).1 j) < (g2, b2).1 j from h49)])) (lI1 (by first | with_reducible rfl | (rw [hsy, rlS]; first | rw [if_pos (show gnF x j (lbC (g2, b2).1 j) < (g2, b2).1 j from h49)] | rw [if_neg (show ¬ gnF x j (lbC (g2, b2).1 j) < (g2, b2).1 j from h49)])) (lI1 (by first | with_reducible rfl | (rw [hsy, rlS]; first | rw [if_pos (show gnF x j (lbC (g2, b2).1 j) < (g2, b2).1 j from h49)] | rw [if_neg (show ¬ gnF x j (lbC (g2, b2).1 j) < (g2, b2).1 j from h49)])) (lC1 rfl)))))) rfl (by first | (rw [hsy, rlS, if_pos (show gnF x j (lbC (g2, b2).1 j) < (g2, b2).1 j from h49), up2_upr]; rfl) | rw [hsy, rlS, if_neg (show ¬ gnF x j (lbC (g2, b2).1 j) < (g2, b2).1 j from h49)])
        exact WP.cg (lp19 (25 - (0)) (0) _ (by omega) (by first | rfl | assumption)) (lC1 (lI1 (by rfl) (lI1 (by rfl) (lI1 (by rfl) (lI1 (by rfl) (lC1 rfl)))))) rfl (by rfl)
  exact WP.cg (lp4 (25 - (0)) (0) _ _ (by omega) (by first | rfl | assumption) (by first | rfl | assumption)) (lC1 (lI1 (by rfl) (lI1 (by rfl) (lI1 (by rfl) (lC1 (lC1 rfl)))))) rfl (by exact mI1 upr_id.symm)
def netsM (I N : Mem) : Mem := fun a => if 50 ≤ a ∧ a < 66 then N (a - 50) else I a
theorem nets_at {I N : Mem} {j : Nat} (h : j < 16) : netsM I N (50 + j) = N j := by
  unfold netsM; rw [if_pos ⟨by omega, by omega⟩]; congr 1; omega
theorem nets_out {I N : Mem} {a : Nat} (h : a < 50 ∨ 66 ≤ a) : netsM I N a = I a := by
  unfold netsM; rw [if_neg (by omega)]
theorem nets_upr {I N : Mem} {j : Nat} {g : Nat → Int32} (h : j < 16) : upr (netsM I N) (50 + j) g = netsM I (upr N j g) := by
  funext a
  by_cases ha : 50 ≤ a ∧ a < 66
  · by_cases e : a = 50 + j
    · subst e; rw [upr_same, nets_at h, upr_same]
    · rw [upr_ne e]; unfold netsM; rw [if_pos ha, if_pos ha, upr_ne (by omega)]
  · rw [upr_ne (by omega)]; unfold netsM; rw [if_neg ha, if_neg ha]
theorem nets_up2 {I N : Mem} {j c : Nat} {v : Int32} (h : j < 16) : up2 (netsM I N) (50 + j) c v = netsM I (up2 N j c v) := by
  have e : ∀ (f : Mem) a, up2 f a c v = upr f a (up1 (f a) c v) := fun f a => by
    funext i k; unfold up2 upr up1
    by_cases h1 : i = a
    · subst h1
      by_cases h2 : k = c
      · rw [if_pos ⟨rfl, h2⟩, if_pos rfl, if_pos h2]
      · rw [if_neg (fun q => h2 q.2), if_pos rfl, if_neg h2]
    · rw [if_neg (fun q => h1 q.1), if_neg h1]
  rw [e, e, nets_upr h, nets_at h]
theorem nets_id {I : Mem} : netsM I (fun j => I (50 + j)) = I := by
  funext a; unfold netsM
  by_cases h : 50 ≤ a ∧ a < 66
  · rw [if_pos h]; show I (50 + (a - 50)) = _; congr 1; omega
  · rw [if_neg h]
theorem and16 : ∀ a : Fin 16, ∀ b : Fin 16, nI a.1 &&& nI b.1 = nI (a.1 &&& b.1) ∧ nI a.1 ^^^ nI b.1 = nI (a.1 ^^^ b.1) ∧ (a.1 ^^^ b.1) < 16 ∧ ((a.1 &&& b.1) = a.1 → 0 < a.1 → a.1 < b.1 → (b.1 ^^^ a.1) < b.1) := by decide +kernel
theorem shl5 : ∀ a : Fin 5, jshl (nI 1) (nI a.1) = nI (2 ^ a.1) := by decide +kernel
def jpV (N : Mem) (m : Nat) (x : Int32) (p c : Nat) : Int32 := jmin (N m c) (N p c + N (m ^^^ p) c - (nI 1 - (jshr x (nI c) &&& nI 1)))
def jpI (x : Int32) (m p : Nat) (N : Mem) (i : Nat) : Mem := forN (fun c M => up2 M m c (jpV M m x p c)) N i
def jpS (x : Int32) (m p : Nat) (N : Mem) : Mem := if (p &&& m) = p then jpI x m p N 25 else N
def jpN (N : Mem) (x : Int32) (m i : Nat) : Mem := forN (fun j M => jpS x m (1 + j) M) N i

