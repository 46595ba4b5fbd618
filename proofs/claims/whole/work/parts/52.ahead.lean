/-! DAYS AHEAD -/
theorem standB_0 {c : Nat} {S : Mem} : standB 0 c S = decide (ripeQ S c) := rfl
theorem standB_1 {c : Nat} {S : Mem} : standB 1 c S = decide (openQ S c) := rfl
theorem standB_2 {c : Nat} {S : Mem} : standB 2 c S = decide (floodQ S) := rfl
def aheadV (S : Mem) (c w : Nat) : Int32 := match w with
  | 0 => S 1 c
  | 1 => S 2 c
  | 2 => S 3 c
  | _ => S 4 c
def tryM (I : Mem) (sd : Int32) (o : LawT) (H k : Nat) : Mem := tdayM (up2 (cpS I 13 1) 13 16 sd) 13 o H k
def spanS (o : LawT) (H k : Nat) (b : Bool) (sd : Nat) (p : Int32 × Mem) : Int32 × Mem :=
  ((if p.1 = -1 then sumN (tryM p.2 (nI sd) o H k 14) 25 else bif b then jmax p.1 (sumN (tryM p.2 (nI sd) o H k 14) 25) else jmin p.1 (sumN (tryM p.2 (nI sd) o H k 14) 25)), tryM p.2 (nI sd) o H k)
def spanF (I : Mem) (o : LawT) (H k : Nat) (b : Bool) (i : Nat) : Int32 × Mem := forN (fun j p => spanS o H k b (1 + j) p) (-1, I) i
theorem try_ok {K : Nat → Nat × Nat} {R : Nat → Nat → Option Nat} {n H : Nat} {o : LawT} {I J : Mem} {sd : Int32} (h : KpD o I J) (hd : DOk K R n I 1 o H) (hw : LOw o) (hN : Nrm (vw 1 I)) : DOk K (up2 R 13 18 (R 1 18)) n (up2 (cpS J 13 1) 13 16 sd) 13 o H ∧ KpD o I (up2 (cpS J 13 1) 13 16 sd) := by
  have hJ : ∀ k, k < 12 → J (1 + k) = I (1 + k) := fun k hk => h.1 _ (by omega) (by
    match o, hw with
    | none, _ => trivial
    | some q, hw => show 1 + k ≠ q.1 + 5; have : 338 ≤ q.1 := hw; omega)
  have hd2 : DOk K R n J 1 o H := by
    obtain ⟨h1, h2, q, q1, q2⟩ := hd
    refine ⟨LO_off h1 hw (fun a ha hl => h.1 a (by omega) hl), by rw [show J 1 = I 1 from hJ 0 (by decide)]; exact h2, q, q1, by rw [hJ 10 (by decide)]; exact q2⟩
  have hN2 : Nrm (vw 1 J) := Nrm_eq hN hJ
  refine ⟨DOk_up0 (DOk_cp hd2 hw (by decide) (by decide)) (by decide), fun a ha hl => ?_, Nrm_up2 (k := 0) (Nrm_cp hN2) rfl⟩
  rw [up2_row (by omega), cpS_out (by omega)]; exact h.1 a ha hl
theorem KpD_tday {K : Nat → Nat × Nat} {R : Nat → Nat → Option Nat} {n H : Nat} {o : LawT} {I J : Mem} (h : KpD o I J) (hd : DOk K R n J 13 o H) : ∀ i, KpD o I (tdayM J 13 o H i) := fun i =>
  ⟨fun a ha hl => (tday_out (by omega) hl i).trans (h.1 a ha hl), Nrm_tday hd h.2 i⟩
theorem KpD_cday {K : Nat → Nat × Nat} {R : Nat → Nat → Option Nat} {n H : Nat} {o : LawT} {I J : Mem} (h : KpD o I J) (hd : DOk K R n J 13 o H) : ∀ i, KpD o I (cdayM J 13 o H i) := fun i =>
  ⟨fun a ha hl => (cday_out (by omega) hl i).trans (h.1 a ha hl), Nrm_cday hd h.2 i⟩
theorem KpD_rfl {o : LawT} {I : Mem} (h : Nrm (vw 13 I)) : KpD o I I := ⟨fun _ _ _ => rfl, h⟩
theorem rk_off {o : LawT} {a : Nat} (hw : LOw o) (ha : a < 338) : offL o a := by
  match o, hw with
  | none, _ => trivial
  | some q, hw => show a ≠ q.1 + 5; have : 338 ≤ q.1 := hw; omega
theorem rank_out {I : Mem} {b a : Nat} {o : LawT} (hw : LOw o) (h1 : a ≠ 47) (h2 : a ≠ 48) (ha : a < 338) : rankM I b o a = I a := by
  unfold rankM; rw [upr_ne h1]; exact rk1M_out h1 h2 (rk_off hw ha) 25
theorem PastI_off {I J : Mem} {R : Nat → Nat → Option Nat} {p : Nat → Nat} {A : Nat} {Ss : Nat → Mem} (h : PastI I R p A Ss) (e : ∀ a, (a = 0 ∨ 174 ≤ a ∧ a < 330) → J a = I a) : PastI J R p A Ss := by
  obtain ⟨h1, h2, h3, h4, h5⟩ := h
  refine ⟨fun i hi => ?_, h2, h3, by rw [e 0 (Or.inl rfl)]; exact h4, fun i hi => ?_⟩
  · obtain ⟨a1, ⟨a2, a3, a4⟩, a5⟩ := h1 i hi
    exact ⟨a1, ⟨a2, a3, a4⟩, Nrm_eq a5 (fun k hk => e _ (Or.inr ⟨by omega, by omega⟩))⟩
  · obtain ⟨a1, ⟨a2, a3, a4⟩, a5⟩ := h1 i (by omega)
    obtain ⟨b1, b2⟩ := h5 i hi
    exact ⟨fun k hk => by rw [e _ (Or.inr ⟨by omega, by omega⟩)]; exact b1 k hk, b2⟩
theorem rr_13 {R : Nat → Nat → Option Nat} {v : Option Nat} : up2 (up2 R 13 18 v) 13 18 (up2 R 13 18 v 1 18) = up2 R 13 18 (R 1 18) := by
  rw [up2_row (show 1 ≠ 13 by decide)]
  funext a j; unfold up2
  by_cases h : a = 13 ∧ j = 18
  · rw [if_pos h, if_pos h]
  · rw [if_neg h, if_neg h, if_neg h]
def cart1 (S : Mem) (h c : Nat) : Prop := ¬ S 3 c = nI 0 ∧ ¬ S 4 c < nI 60 ∧ hasP (S 9 h) c

theorem c_st0 {d : Nat} {K : Nat → Nat × Nat} {I : Nat → Nat → Int32} {L : Nat → Nat → Int64} {R : Nat → Nat → Option Nat} {n s : Nat} {Q : Lo → Lm → Prop} {c : Nat} (hT : TK K R n) (hc : c < 25) (kk : Q (.inl (some (.int (if standB 0 c (vw 13 I) = true then nI 1 else nI 0)))) (K, I, L, R, n, s)) : Ok (d + 2) 26 [.ref 0, .int (nI 0), .int (nI c)] (K, I, L, R, n, s) Q := by
  have hb := TK.s1 hT
  have hb13 := TK.s13 hT
  obtain ⟨-, -, hn⟩ := id hT
  refine Ok.enter (F := F_26) (ls := [.ref 0, .int (nI 0), .int (nI c)]) rfl rfl ?_
  refine wp_iload1 (pc' := 1) rfl rfl ?_
  refine wp_ifneF (pc' := 4) rfl rfl rfl ?_
  refine wp_aload0 (pc' := 5) rfl rfl ?_
  refine wp_getRF (pc' := 8) rfl rfl (by first | exact TK.k1 hT rfl | exact TK.kk hT rfl | exact TK.r hT rfl | assumption) (by first | exact TK.k1 hT rfl | exact TK.kk hT rfl | exact TK.r hT rfl | assumption) rfl ?_
  refine wp_getRF (pc' := 11) rfl rfl (by first | exact TK.k1 hT rfl | exact TK.kk hT rfl | exact TK.r hT rfl | assumption) (by first | exact TK.k1 hT rfl | exact TK.kk hT rfl | exact TK.r hT rfl | assumption) rfl ?_
  refine wp_iload2 (pc' := 12) rfl rfl ?_
  refine wp_iald _ (pc' := 13) rfl (by first | exact TK.k1 hT rfl | exact TK.kk hT rfl | exact TK.r hT rfl | assumption) (by with_reducible rfl) (by omega) (by first | decide | assumption | omega) rfl ?_
  refine wp_ifle (pc' := 16) rfl rfl ?_ ?_
  · intro h13
    refine wp_iconst (v := nI 0) (pc' := 35) rfl rfl rfl ?_
    refine wp_iret rfl rfl (by first | rfl | exact nar_if) ?_
    exact Qv kk (by rw [standB_0]; first | rw [if_pos (decide_eq_true (show ripeQ (vw 13 I) c from ⟨h13, h27⟩))] | rw [if_neg (fun q => (of_decide_eq_true q : ripeQ (vw 13 I) c).2 h27)] | rw [if_neg (fun q => h13 (of_decide_eq_true q : ripeQ (vw 13 I) c).1)]) rfl
  · intro h13
    refine wp_aload0 (pc' := 17) rfl rfl ?_
    refine wp_getRF (pc' := 20) rfl rfl (by first | exact TK.k1 hT rfl | exact TK.kk hT rfl | exact TK.r hT rfl | assumption) (by first | exact TK.k1 hT rfl | exact TK.kk hT rfl | exact TK.r hT rfl | assumption) rfl ?_
    refine wp_getRF (pc' := 23) rfl rfl (by first | exact TK.k1 hT rfl | exact TK.kk hT rfl | exact TK.r hT rfl | assumption) (by first | exact TK.k1 hT rfl | exact TK.kk hT rfl | exact TK.r hT rfl | assumption) rfl ?_
    refine wp_iload2 (pc' := 24) rfl rfl ?_
    refine wp_iald _ (pc' := 25) rfl (by first | exact TK.k1 hT rfl | exact TK.kk hT rfl | exact TK.r hT rfl | assumption) (by with_reducible rfl) (by omega) (by first | decide | assumption | omega) rfl ?_
    refine wp_bipush (v := nI 60) (pc' := 27) rfl rfl rfl ?_
    refine wp_icmplt (pc' := 30) rfl rfl ?_ ?_
    · intro h27
      refine wp_iconst (v := nI 0) (pc' := 35) rfl rfl rfl ?_
      refine wp_iret rfl rfl (by first | rfl | exact nar_if) ?_
      exact Qv kk (by rw [standB_0]; first | rw [if_pos (decide_eq_true (show ripeQ (vw 13 I) c from ⟨h13, h27⟩))] | rw [if_neg (fun q => (of_decide_eq_true q : ripeQ (vw 13 I) c).2 h27)] | rw [if_neg (fun q => h13 (of_decide_eq_true q : ripeQ (vw 13 I) c).1)]) rfl
    · intro h27
      refine wp_iconst (v := nI 1) (pc' := 31) rfl rfl rfl ?_
      refine wp_goto rfl ?_
      refine wp_iret rfl rfl (by first | rfl | exact nar_if) ?_
      exact Qv kk (by rw [standB_0]; first | rw [if_pos (decide_eq_true (show ripeQ (vw 13 I) c from ⟨h13, h27⟩))] | rw [if_neg (fun q => (of_decide_eq_true q : ripeQ (vw 13 I) c).2 h27)] | rw [if_neg (fun q => h13 (of_decide_eq_true q : ripeQ (vw 13 I) c).1)]) rfl
theorem c_st1 {d : Nat} {K : Nat → Nat × Nat} {I : Nat → Nat → Int32} {L : Nat → Nat → Int64} {R : Nat → Nat → Option Nat} {n s : Nat} {Q : Lo → Lm → Prop} {c : Nat} (hT : TK K R n) (hc : c < 25) (kk : Q (.inl (some (.int (if standB 1 c (vw 13 I) = true then nI 1 else nI 0)))) (K, I, L, R, n, s)) : Ok (d + 2) 26 [.ref 0, .int (nI 1), .int (nI c)] (K, I, L, R, n, s) Q := by
  have hb := TK.s1 hT
  have hb13 := TK.s13 hT
  obtain ⟨-, -, hn⟩ := id hT
  refine Ok.enter (F := F_26) (ls := [.ref 0, .int (nI 1), .int (nI c)]) rfl rfl ?_
  refine wp_iload1 (pc' := 1) rfl rfl ?_
  refine wp_ifneT rfl (by decide) ?_
  refine wp_iload1 (pc' := 37) rfl rfl ?_
  refine wp_iconst (v := nI 1) (pc' := 38) rfl rfl rfl ?_
  refine wp_icmpneF (pc' := 41) rfl rfl rfl ?_
  refine wp_aload0 (pc' := 42) rfl rfl ?_
  refine wp_getRF (pc' := 45) rfl rfl (by first | exact TK.k1 hT rfl | exact TK.kk hT rfl | exact TK.r hT rfl | assumption) (by first | exact TK.k1 hT rfl | exact TK.kk hT rfl | exact TK.r hT rfl | assumption) rfl ?_
  refine wp_iload2 (pc' := 46) rfl rfl ?_
  refine wp_callV2 (pc' := 49) rfl rfl rfl rfl rfl (by first | exact TK.k1 hT rfl | exact TK.kk hT rfl | exact TK.r hT rfl | assumption) rfl rfl ?_
  refine c_isOpen hb13 hc ?_
  refine Cont.v ?_
  refine wp_iret rfl rfl (by first | rfl | exact nar_if) ?_
  exact Qv kk (by rw [standB_1]; simp only [decide_eq_true_eq]) rfl
theorem c_st2 {d : Nat} {K : Nat → Nat × Nat} {I : Nat → Nat → Int32} {L : Nat → Nat → Int64} {R : Nat → Nat → Option Nat} {n s : Nat} {Q : Lo → Lm → Prop} {c : Nat} (hT : TK K R n) (hc : c < 25) (kk : Q (.inl (some (.int (if standB 2 c (vw 13 I) = true then nI 1 else nI 0)))) (K, I, L, R, n, s)) : Ok (d + 2) 26 [.ref 0, .int (nI 2), .int (nI c)] (K, I, L, R, n, s) Q := by
  have hb := TK.s1 hT
  have hb13 := TK.s13 hT
  obtain ⟨-, -, hn⟩ := id hT
  refine Ok.enter (F := F_26) (ls := [.ref 0, .int (nI 2), .int (nI c)]) rfl rfl ?_
  refine wp_iload1 (pc' := 1) rfl rfl ?_
  refine wp_ifneT rfl (by decide) ?_
  refine wp_iload1 (pc' := 37) rfl rfl ?_
  refine wp_iconst (v := nI 1) (pc' := 38) rfl rfl rfl ?_
  refine wp_icmpneT rfl (by decide) ?_
  refine wp_aload0 (pc' := 51) rfl rfl ?_
  refine wp_getRF (pc' := 54) rfl rfl (by first | exact TK.k1 hT rfl | exact TK.kk hT rfl | exact TK.r hT rfl | assumption) (by first | exact TK.k1 hT rfl | exact TK.kk hT rfl | exact TK.r hT rfl | assumption) rfl ?_
  refine wp_getRF (pc' := 57) rfl rfl (by first | exact TK.k1 hT rfl | exact TK.kk hT rfl | exact TK.r hT rfl | assumption) (by first | exact TK.k1 hT rfl | exact TK.kk hT rfl | exact TK.r hT rfl | assumption) rfl ?_
  refine wp_aload0 (pc' := 58) rfl rfl ?_
  refine wp_getRF (pc' := 61) rfl rfl (by first | exact TK.k1 hT rfl | exact TK.kk hT rfl | exact TK.r hT rfl | assumption) (by first | exact TK.k1 hT rfl | exact TK.kk hT rfl | exact TK.r hT rfl | assumption) rfl ?_
  refine wp_getRF (pc' := 64) rfl rfl (by first | exact TK.k1 hT rfl | exact TK.kk hT rfl | exact TK.r hT rfl | assumption) (by first | exact TK.k1 hT rfl | exact TK.kk hT rfl | exact TK.r hT rfl | assumption) rfl ?_
  refine wp_bipush (v := nI 25) (pc' := 66) rfl rfl rfl ?_
  refine wp_callS2 (pc' := 69) rfl rfl rfl rfl rfl rfl ?_
  refine c_firstOfMost (w := 25) (l := 25) (TK.kk hT rfl) (by decide) (by decide) (by decide) ?_
  refine Cont.v ?_
  refine wp_iald (mostN (I 15) 25) (pc' := 70) rfl (TK.kk hT rfl) rfl (mostN_lt _ _ (by decide)) (by decide) rfl ?_
  refine wp_bipush (v := nI 9) (pc' := 72) rfl rfl rfl ?_
  refine wp_icmpne (pc' := 75) rfl rfl ?_ ?_
  · intro h72
    refine wp_iconst (v := nI 0) (pc' := 80) rfl rfl rfl ?_
    refine wp_iret rfl rfl (by first | rfl | exact nar_if) ?_
    exact Qv kk (by rw [standB_2]; first | rw [if_pos (decide_eq_true (show floodQ (vw 13 I) from h72))] | rw [if_neg (fun q => h72 (of_decide_eq_true q : floodQ (vw 13 I)))]) rfl
  · intro h72
    refine wp_iconst (v := nI 1) (pc' := 76) rfl rfl rfl ?_
    refine wp_goto rfl ?_
    refine wp_iret rfl rfl (by first | rfl | exact nar_if) ?_
    exact Qv kk (by rw [standB_2]; first | rw [if_pos (decide_eq_true (show floodQ (vw 13 I) from h72))] | rw [if_neg (fun q => h72 (of_decide_eq_true q : floodQ (vw 13 I)))]) rfl
theorem c_stands {d : Nat} {K : Nat → Nat × Nat} {I : Mem} {L : Nat → Nat → Int64} {R : Nat → Nat → Option Nat} {n s : Nat} {Q : Lo → Lm → Prop} {w c : Nat} (hT : TK K R n) (hw : w < 3) (hc : c < 25) (kk : Q (.inl (some (.int (if standB w c (vw 13 I) = true then nI 1 else nI 0)))) (K, I, L, R, n, s)) : Ok (d + 2) 26 [.ref 0, .int (nI w), .int (nI c)] (K, I, L, R, n, s) Q := by
  match w, hw, kk with
  | 0, _, kk => exact c_st0 hT hc kk
  | 1, _, kk => exact c_st1 hT hc kk
  | 2, _, kk => exact c_st2 hT hc kk
theorem c_firstDay {d : Nat} {K : Nat → Nat × Nat} {I : Nat → Nat → Int32} {L : Nat → Nat → Int64} {R : Nat → Nat → Option Nat} {n s : Nat} {Q : Lo → Lm → Prop} {w c H : Nat} {o : LawT} (hT : TK K R n) (hw3 : w < 3) (hc : c < 25) (hD : DOk K R n I 1 o H) (hw : LOw o) (hH6 : H ≤ 6) (hr : I 1 14 = 0 ∨ I 1 14 = 1) (hn1 : Nrm (vw 1 I)) (hn13 : Nrm (vw 13 I)) (kk : ∀ J, KpD o I J → Q (.inl (some (.int (fdV w c o H 60 0 (cpS I 13 1))))) (K, J, L, up2 R 13 18 (R 1 18), n, s)) : Ok (d + 6) 23 [.ref 0, .int (nI w), .int (nI c)] (K, I, L, R, n, s) Q := by
  have hb := TK.s1 hT
  have hb13 := TK.s13 hT
  obtain ⟨-, -, hn⟩ := id hT
  refine Ok.enter (F := F_23) (ls := [.ref 0, .int (nI w), .int (nI c), lDead]) rfl rfl ?_
  refine wp_aload0 (pc' := 1) rfl rfl ?_
  refine wp_getRF (pc' := 4) rfl rfl (by first | exact TK.k1 hT rfl | exact TK.kk hT rfl | exact TK.r hT rfl | assumption) (by first | exact TK.k1 hT rfl | exact TK.kk hT rfl | exact TK.r hT rfl | assumption) rfl ?_
  refine wp_aload0 (pc' := 5) rfl rfl ?_
  refine wp_getRF (pc' := 8) rfl rfl (by first | exact TK.k1 hT rfl | exact TK.kk hT rfl | exact TK.r hT rfl | assumption) (by first | exact TK.k1 hT rfl | exact TK.kk hT rfl | exact TK.r hT rfl | assumption) rfl ?_
  refine wp_callV2 (pc' := 11) rfl rfl rfl rfl rfl (by first | exact TK.k1 hT rfl | exact TK.kk hT rfl | exact TK.r hT rfl | assumption) rfl rfl ?_
  refine c_copy hb13 hb (Or.inr (by decide)) hr hn13 hn1 ?_
  have hT := TK_18 (b := 13) (v := R 1 18) hT (by unfold isSt; omega)
  have hb := TK.s1 hT
  have hb13 := TK.s13 hT
  have hD13 := DOk_cp (b := 13) hD hw (by decide) (by decide)
  refine Cont.u ?_
  refine wp_iconst (v := nI 0) (pc' := 12) rfl rfl rfl ?_
  refine wp_istore3 (pc' := 13) rfl (by first | rfl | assumption) rfl ?_
  have lp13 : ∀ r (i : Nat) (J : Mem), i + r = 60 → KpD o I J → DOk K (up2 R 13 18 (R 1 18)) n J 13 o H → fdV w c o H r i J = fdV w c o H 60 0 (cpS I 13 1) → WP (d + 5) F_23 13 [.ref 0, .int (nI w), .int (nI c), .int (nI i)] [] (K, J, L, up2 R 13 18 (R 1 18), n, s) Q := by
    intro r; induction r with
    | zero =>
      intro i J hi hv0 hv1 hv2
      have hi2 : i = 60 := by omega
      subst hi2
      refine wp_iload3 (pc' := 14) rfl rfl ?_
      refine wp_bipush (v := nI 60) (pc' := 16) rfl rfl rfl ?_
      refine wp_icmpgeT rfl (nI_nlt (by omega) (by omega)) ?_
      refine wp_aload0 (pc' := 45) rfl rfl ?_
      refine wp_iload1 (pc' := 46) rfl rfl ?_
      refine wp_iload2 (pc' := 47) rfl rfl ?_
      refine wp_callV3 (pc' := 50) rfl rfl rfl rfl rfl (by first | exact TK.k1 hT rfl | exact TK.kk hT rfl | exact TK.r hT rfl | assumption) rfl rfl ?_
      refine c_stands hT hw3 hc ?_
      refine Cont.v ?_
      first | refine wp_ifeqB (pc' := 53) rfl rfl ?_ ?_ | refine wp_ifeq (pc' := 53) rfl rfl ?_ ?_
      · intro h50
        refine wp_iconst (v := (-1)) (pc' := 59) rfl rfl rfl ?_
        refine wp_iret rfl rfl rfl ?_
        first | exact Qv (kk J hv0) (by rw [fdV, h50, cond_true] at hv2; exact hv2) rfl | exact Qv (kk J hv0) (by rw [fdV, Bool.eq_false_iff.mpr h50, cond_false] at hv2; exact hv2) rfl
      · intro h50
        refine wp_bipush (v := nI 60) (pc' := 55) rfl rfl rfl ?_
        refine wp_goto rfl ?_
        refine wp_iret rfl rfl rfl ?_
        first | exact Qv (kk J hv0) (by rw [fdV, h50, cond_true] at hv2; exact hv2) rfl | exact Qv (kk J hv0) (by rw [fdV, Bool.eq_false_iff.mpr h50, cond_false] at hv2; exact hv2) rfl
    | succ r ih =>
      intro i J hi hv0 hv1 hv2
      have hlt : i < 60 := by omega
      refine wp_iload3 (pc' := 14) rfl rfl ?_
      refine wp_bipush (v := nI 60) (pc' := 16) rfl rfl rfl ?_
      refine wp_icmpgeF (pc' := 19) rfl (nI_lt (by omega) (by omega)) rfl ?_
      refine wp_aload0 (pc' := 20) rfl rfl ?_
      refine wp_iload1 (pc' := 21) rfl rfl ?_
      refine wp_iload2 (pc' := 22) rfl rfl ?_
      refine wp_callV3 (pc' := 25) rfl rfl rfl rfl rfl (by first | exact TK.k1 hT rfl | exact TK.kk hT rfl | exact TK.r hT rfl | assumption) rfl rfl ?_
      refine c_stands hT hw3 hc ?_
      refine Cont.v ?_
      first | refine wp_ifeqB (pc' := 28) rfl rfl ?_ ?_ | refine wp_ifeq (pc' := 28) rfl rfl ?_ ?_
      · intro h25
        refine wp_aload0 (pc' := 31) rfl rfl ?_
        refine wp_getRF (pc' := 34) rfl rfl (by first | exact TK.k1 hT rfl | exact TK.kk hT rfl | exact TK.r hT rfl | assumption) (by first | exact TK.k1 hT rfl | exact TK.kk hT rfl | exact TK.r hT rfl | assumption) rfl ?_
        refine wp_callV1 (pc' := 37) rfl rfl rfl rfl rfl (by first | exact TK.k1 hT rfl | exact TK.kk hT rfl | exact TK.r hT rfl | assumption) rfl rfl ?_
        refine c_passDay hb13 hv1.1 hv1.2.1 hH6 hv1.2.2 ?_
        refine Cont.v ?_
        refine wp_pop (pc' := 38) rfl rfl rfl ?_
        first | refine wp_iinc3 (w := nI 1) (pc' := 41) rfl rfl rfl (by with_reducible exact nI_add _ _) rfl ?_ | refine wp_iinc3 (w := nI 1) (pc' := 41) rfl rfl rfl rfl rfl ?_
        refine wp_goto rfl ?_
        exact WP.cg (ih (i + 1) _ (by omega) (KpD_day hv0 hv1) (DOk_day hv1) (by rw [fdV, Bool.eq_false_iff.mpr h25, cond_false] at hv2; exact hv2)) (lC1 (lI1 (by rfl) (lI1 (by rfl) (lI1 (by rfl) rfl)))) rfl (by rfl)
      · intro h25
        refine wp_iload3 (pc' := 29) rfl rfl ?_
        refine wp_iret rfl rfl rfl ?_
        exact Qv (kk J hv0) (by rw [fdV, h25, cond_true] at hv2; exact hv2) rfl
  exact WP.cg (lp13 (60 - (0)) (0) _ (by omega) (KpD_cp hn1) hD13 rfl) (lC1 (lI1 (by rfl) (lI1 (by rfl) (lI1 (by rfl) rfl)))) rfl (by rfl)
theorem c_flood {d : Nat} {K : Nat → Nat × Nat} {I : Nat → Nat → Int32} {L : Nat → Nat → Int64} {R : Nat → Nat → Option Nat} {n s : Nat} {Q : Lo → Lm → Prop} {H : Nat} {o : LawT} (hT : TK K R n) (hD : DOk K R n I 1 o H) (hw : LOw o) (hH6 : H ≤ 6) (hr : I 1 14 = 0 ∨ I 1 14 = 1) (hn1 : Nrm (vw 1 I)) (hn13 : Nrm (vw 13 I)) (kk : ∀ J, KpD o I J → Q (.inl (some (.int (fdV 2 0 o H 60 0 (cpS I 13 1))))) (K, J, L, up2 R 13 18 (R 1 18), n, s)) : Ok (d + 7) 22 [.ref 0] (K, I, L, R, n, s) Q := by
  have hb := TK.s1 hT
  have hb13 := TK.s13 hT
  obtain ⟨-, -, hn⟩ := id hT
  refine Ok.enter (F := F_22) (ls := [.ref 0]) rfl rfl ?_
  refine wp_aload0 (pc' := 1) rfl rfl ?_
  refine wp_iconst (v := nI 2) (pc' := 2) rfl rfl rfl ?_
  refine wp_iconst (v := nI 0) (pc' := 3) rfl rfl rfl ?_
  refine wp_callV3 (pc' := 6) rfl rfl rfl rfl rfl (by first | exact TK.k1 hT rfl | exact TK.kk hT rfl | exact TK.r hT rfl | assumption) rfl rfl ?_
  refine c_firstDay (w := 2) (c := 0) hT (by decide) (by decide) hD hw hH6 hr hn1 hn13 (fun J hJ => ?_)
  refine Cont.v ?_
  refine wp_iret rfl rfl rfl ?_
  exact kk J hJ
theorem c_ahead {d : Nat} {K : Nat → Nat × Nat} {I : Nat → Nat → Int32} {L : Nat → Nat → Int64} {R : Nat → Nat → Option Nat} {n s : Nat} {Q : Lo → Lm → Prop} {x y z : Int32} {H : Nat} {o : LawT} (hT : TK K R n) (hf : n + 1 ≤ lmCells) (hs : s + 6 ≤ lmSlots) (hD : DOk K R n I 1 o H) (hw : LOw o) (hH6 : H ≤ 6) (hr : I 1 14 = 0 ∨ I 1 14 = 1) (hn1 : Nrm (vw 1 I)) (hn13 : Nrm (vw 13 I)) (kkE : ¬ InR x 25 → Q (.inr n) (exM 16 (K, I, L, R, n, s))) (kkD : ∀ c, c < 25 → x = nI c → ¬ (¬ y < nI 0 ∧ ¬ nI 60 < y) → Q (.inr n) (exM 14 (K, I, L, R, n, s))) (kkN : ∀ c k, c < 25 → k ≤ 60 → x = nI c → y = nI k → ¬ InR z 4 → Q (.inr n) (exM 17 (K, I, L, R, n, s))) (kk : ∀ c k w, c < 25 → k ≤ 60 → w < 4 → x = nI c → y = nI k → z = nI w → Q (.inl (some (.int (aheadV (vw 13 (cdayM (cpS I 13 1) 13 o H k)) c w)))) (K, cdayM (cpS I 13 1) 13 o H k, L, up2 R 13 18 (R 1 18), n, s)) : Ok (d + 6) 199 [.ref 0, .int x, .int y, .int z] (K, I, L, R, n, s) Q := by
  have hb := TK.s1 hT
  have hb13 := TK.s13 hT
  obtain ⟨-, -, hn⟩ := id hT
  refine Ok.enter (F := F_199) (ls := [.ref 0, .int x, .int y, .int z, lDead]) rfl rfl ?_
  refine wp_iload1 (pc' := 1) rfl rfl ?_
  refine wp_callS1 (pc' := 4) rfl rfl rfl rfl rfl rfl ?_
  refine c_needCell hf hs (fun he => Cont.e rfl (kkE he)) (fun c hc hx => ?_)
  subst hx
  refine Cont.u ?_
  refine wp_iload2 (pc' := 5) rfl rfl ?_
  refine wp_iconst (v := nI 0) (pc' := 6) rfl rfl rfl ?_
  refine wp_bipush (v := nI 60) (pc' := 8) rfl rfl rfl ?_
  refine wp_callS3 (pc' := 11) rfl rfl rfl rfl rfl rfl ?_
  refine c_needDays hf hs (fun he => Cont.e rfl (kkD c hc rfl he)) (fun g1 g2 => ?_)
  obtain ⟨k, k2, rfl⟩ := days0_of (m := 60) (by decide) g1 g2
  refine Cont.u ?_
  refine wp_iload3 (pc' := 12) rfl rfl ?_
  refine wp_iflt (pc' := 15) rfl rfl ?_ ?_
  · intro h12
    refine wp_raise (pc := 20) rfl rfl rfl rfl rfl rfl rfl rfl rfl (by decide) (by decide) (by omega) (by omega) rfl ?_
    first | exact kkN c k hc k2 rfl rfl (InR_neg (by decide) (by first | assumption)) | exact kkN c k hc k2 rfl rfl (InR_gt (by decide) (by first | assumption))
  · intro h12
    refine wp_iload3 (pc' := 16) rfl rfl ?_
    refine wp_iconst (v := nI 3) (pc' := 17) rfl rfl rfl ?_
    refine wp_icmple (pc' := 20) rfl rfl ?_ ?_
    · intro h17
      obtain ⟨w, hw4, rfl⟩ := InR_le (k := 3) (by decide) h12 h17
      refine wp_aload0 (pc' := 32) rfl rfl ?_
      refine wp_getRF (pc' := 35) rfl rfl (by first | exact TK.k1 hT rfl | exact TK.kk hT rfl | exact TK.r hT rfl | assumption) (by first | exact TK.k1 hT rfl | exact TK.kk hT rfl | exact TK.r hT rfl | assumption) rfl ?_
      refine wp_aload0 (pc' := 36) rfl rfl ?_
      refine wp_getRF (pc' := 39) rfl rfl (by first | exact TK.k1 hT rfl | exact TK.kk hT rfl | exact TK.r hT rfl | assumption) (by first | exact TK.k1 hT rfl | exact TK.kk hT rfl | exact TK.r hT rfl | assumption) rfl ?_
      refine wp_callV2 (pc' := 42) rfl rfl rfl rfl rfl (by first | exact TK.k1 hT rfl | exact TK.kk hT rfl | exact TK.r hT rfl | assumption) rfl rfl ?_
      refine c_copy hb13 hb (Or.inr (by decide)) hr hn13 hn1 ?_
      have hT := TK_18 (b := 13) (v := R 1 18) hT (by unfold isSt; omega)
      have hb := TK.s1 hT
      have hb13 := TK.s13 hT
      have hD13 := DOk_cp (b := 13) hD hw (by decide) (by decide)
      refine Cont.u ?_
      refine wp_iconst (v := nI 0) (pc' := 43) rfl rfl rfl ?_
      refine wp_istore4 (pc' := 45) rfl (by first | rfl | assumption) rfl ?_
      have lp45 : ∀ r (i : Nat), i + r = k → WP (d + 5) F_199 45 [.ref 0, .int (nI c), .int (nI k), .int (nI w), .int (nI i)] [] (K, cdayM (cpS I 13 1) 13 o H i, L, up2 R 13 18 (R 1 18), n, s) Q := by
        intro r; induction r with
        | zero =>
          intro i hi 
          have hi2 : i = k := by omega
          subst hi2
          refine wp_iload4 (pc' := 47) rfl rfl ?_
          refine wp_iload2 (pc' := 48) rfl rfl ?_
          refine wp_icmpgeT rfl (nI_nlt (by omega) (by omega)) ?_
          refine wp_iload3 (pc' := 66) rfl rfl ?_
          by_cases hs0 : nI w = nI 0
          · refine wp_sw (tg := 92) rfl (by rw [hs0]; rfl) ?_
            refine wp_aload0 (pc' := 93) rfl rfl ?_
            refine wp_getRF (pc' := 96) rfl rfl (by first | exact TK.k1 hT rfl | exact TK.kk hT rfl | exact TK.r hT rfl | assumption) (by first | exact TK.k1 hT rfl | exact TK.kk hT rfl | exact TK.r hT rfl | assumption) rfl ?_
            refine wp_getRF (pc' := 99) rfl rfl (by first | exact TK.k1 hT rfl | exact TK.kk hT rfl | exact TK.r hT rfl | assumption) (by first | exact TK.k1 hT rfl | exact TK.kk hT rfl | exact TK.r hT rfl | assumption) rfl ?_
            refine wp_iload1 (pc' := 100) rfl rfl ?_
            refine wp_iald _ (pc' := 101) rfl (by first | exact TK.k1 hT rfl | exact TK.kk hT rfl | exact TK.r hT rfl | assumption) (by with_reducible rfl) (by omega) (by first | decide | assumption | omega) rfl ?_
            refine wp_iret rfl rfl rfl ?_
            obtain rfl : w = 0 := (nI_eq (by omega) (by decide)).mp hs0
            exact kk c _ 0 hc k2 (by decide) rfl rfl rfl
          by_cases hs1 : nI w = nI 1
          · refine wp_sw (tg := 102) rfl (by rw [hs1]; rfl) ?_
            refine wp_aload0 (pc' := 103) rfl rfl ?_
            refine wp_getRF (pc' := 106) rfl rfl (by first | exact TK.k1 hT rfl | exact TK.kk hT rfl | exact TK.r hT rfl | assumption) (by first | exact TK.k1 hT rfl | exact TK.kk hT rfl | exact TK.r hT rfl | assumption) rfl ?_
            refine wp_getRF (pc' := 109) rfl rfl (by first | exact TK.k1 hT rfl | exact TK.kk hT rfl | exact TK.r hT rfl | assumption) (by first | exact TK.k1 hT rfl | exact TK.kk hT rfl | exact TK.r hT rfl | assumption) rfl ?_
            refine wp_iload1 (pc' := 110) rfl rfl ?_
            refine wp_iald _ (pc' := 111) rfl (by first | exact TK.k1 hT rfl | exact TK.kk hT rfl | exact TK.r hT rfl | assumption) (by with_reducible rfl) (by omega) (by first | decide | assumption | omega) rfl ?_
            refine wp_iret rfl rfl rfl ?_
            obtain rfl : w = 1 := (nI_eq (by omega) (by decide)).mp hs1
            exact kk c _ 1 hc k2 (by decide) rfl rfl rfl
          by_cases hs2 : nI w = nI 2
          · refine wp_sw (tg := 112) rfl (by rw [hs2]; rfl) ?_
            refine wp_aload0 (pc' := 113) rfl rfl ?_
            refine wp_getRF (pc' := 116) rfl rfl (by first | exact TK.k1 hT rfl | exact TK.kk hT rfl | exact TK.r hT rfl | assumption) (by first | exact TK.k1 hT rfl | exact TK.kk hT rfl | exact TK.r hT rfl | assumption) rfl ?_
            refine wp_getRF (pc' := 119) rfl rfl (by first | exact TK.k1 hT rfl | exact TK.kk hT rfl | exact TK.r hT rfl | assumption) (by first | exact TK.k1 hT rfl | exact TK.kk hT rfl | exact TK.r hT rfl | assumption) rfl ?_
            refine wp_iload1 (pc' := 120) rfl rfl ?_
            refine wp_iald _ (pc' := 121) rfl (by first | exact TK.k1 hT rfl | exact TK.kk hT rfl | exact TK.r hT rfl | assumption) (by with_reducible rfl) (by omega) (by first | decide | assumption | omega) rfl ?_
            refine wp_iret rfl rfl rfl ?_
            obtain rfl : w = 2 := (nI_eq (by omega) (by decide)).mp hs2
            exact kk c _ 2 hc k2 (by decide) rfl rfl rfl
          refine wp_sw (tg := 122) rfl (sw_def (fun k hk => match k, hk with | 0, _ => hs0 | 1, _ => hs1 | 2, _ => hs2 | k + 3, h => absurd h (show ¬ k + 3 < 3 by omega))) ?_
          refine wp_aload0 (pc' := 123) rfl rfl ?_
          refine wp_getRF (pc' := 126) rfl rfl (by first | exact TK.k1 hT rfl | exact TK.kk hT rfl | exact TK.r hT rfl | assumption) (by first | exact TK.k1 hT rfl | exact TK.kk hT rfl | exact TK.r hT rfl | assumption) rfl ?_
          refine wp_getRF (pc' := 129) rfl rfl (by first | exact TK.k1 hT rfl | exact TK.kk hT rfl | exact TK.r hT rfl | assumption) (by first | exact TK.k1 hT rfl | exact TK.kk hT rfl | exact TK.r hT rfl | assumption) rfl ?_
          refine wp_iload1 (pc' := 130) rfl rfl ?_
          refine wp_iald _ (pc' := 131) rfl (by first | exact TK.k1 hT rfl | exact TK.kk hT rfl | exact TK.r hT rfl | assumption) (by with_reducible rfl) (by omega) (by first | decide | assumption | omega) rfl ?_
          refine wp_iret rfl rfl rfl ?_
          obtain rfl : w = 3 := by
            have e0 : w ≠ 0 := fun e => hs0 (by rw [e])
            have e1 : w ≠ 1 := fun e => hs1 (by rw [e])
            have e2 : w ≠ 2 := fun e => hs2 (by rw [e])
            omega
          exact kk c _ 3 hc k2 (by decide) rfl rfl rfl
        | succ r ih =>
          intro i hi 
          have hlt : i < k := by omega
          have hdd := DOk_cday hD13 i
          refine wp_iload4 (pc' := 47) rfl rfl ?_
          refine wp_iload2 (pc' := 48) rfl rfl ?_
          refine wp_icmpgeF (pc' := 51) rfl (nI_lt (by omega) (by omega)) rfl ?_
          refine wp_aload0 (pc' := 52) rfl rfl ?_
          refine wp_getRF (pc' := 55) rfl rfl (by first | exact TK.k1 hT rfl | exact TK.kk hT rfl | exact TK.r hT rfl | assumption) (by first | exact TK.k1 hT rfl | exact TK.kk hT rfl | exact TK.r hT rfl | assumption) rfl ?_
          refine wp_callV1 (pc' := 58) rfl rfl rfl rfl rfl (by first | exact TK.k1 hT rfl | exact TK.kk hT rfl | exact TK.r hT rfl | assumption) rfl rfl ?_
          refine c_passDay hb13 hdd.1 hdd.2.1 hH6 hdd.2.2 ?_
          refine Cont.v ?_
          refine wp_pop (pc' := 59) rfl rfl rfl ?_
          first | refine wp_iinc4 (w := nI 1) (pc' := 62) rfl rfl rfl (by with_reducible exact nI_add _ _) rfl ?_ | refine wp_iinc4 (w := nI 1) (pc' := 62) rfl rfl rfl rfl rfl ?_
          refine wp_goto rfl ?_
          exact WP.cg (ih (i + 1) (by omega)) (lC1 (lI1 (by rfl) (lI1 (by rfl) (lI1 (by rfl) (lI1 (by rfl) rfl))))) rfl (by rfl)
      exact WP.cg (lp45 (k - (0)) (0) (by omega)) (lC1 (lI1 (by rfl) (lI1 (by rfl) (lI1 (by rfl) (lI1 (by rfl) rfl))))) rfl (by rfl)
    · intro h17
      refine wp_raise (pc := 20) rfl rfl rfl rfl rfl rfl rfl rfl rfl (by decide) (by decide) (by omega) (by omega) rfl ?_
      first | exact kkN c k hc k2 rfl rfl (InR_neg (by decide) (by first | assumption)) | exact kkN c k hc k2 rfl rfl (InR_gt (by decide) (by first | assumption))
theorem c_tryDays {d : Nat} {K : Nat → Nat × Nat} {I : Nat → Nat → Int32} {L : Nat → Nat → Int64} {R : Nat → Nat → Option Nat} {n s : Nat} {Q : Lo → Lm → Prop} {k H : Nat} {sd : Int32} {o : LawT} {J : Mem} {R2 : Nat → Nat → Option Nat} (hT0 : TK K R n) (hkd : KpD o I J) (hD : DOk K R n I 1 o H) (hw : LOw o) (hH6 : H ≤ 6) (hr : I 1 14 = 0 ∨ I 1 14 = 1) (hn1 : Nrm (vw 1 I)) (hRR : up2 R2 13 18 (R2 1 18) = up2 R 13 18 (R 1 18)) (hT : TK K R2 n) (hk : k ≤ 60) (kk : Q (.inl none) (K, tryM J sd o H k, L, up2 R 13 18 (R 1 18), n, s)) : Ok (d + 6) 202 [.ref 0, .int (nI k), .int sd] (K, J, L, R2, n, s) Q := by
  have hb := TK.s1 hT
  have hb13 := TK.s13 hT
  obtain ⟨-, -, hn⟩ := id hT
  have htr := try_ok (sd := sd) hkd hD hw hn1
  have hJ1 : J 1 = I 1 := hkd.1 1 (by decide) (rk_off hw (by decide))
  have hN1 : Nrm (vw 1 J) := Nrm_eq hn1 (fun q hq => hkd.1 _ (by omega) (rk_off hw (by omega)))
  refine Ok.enter (F := F_202) (ls := [.ref 0, .int (nI k), .int sd, lDead]) rfl rfl ?_
  refine wp_aload0 (pc' := 1) rfl rfl ?_
  refine wp_getRF (pc' := 4) rfl rfl (by first | exact TK.k1 hT rfl | exact TK.kk hT rfl | exact TK.r hT rfl | assumption) (by first | exact TK.k1 hT rfl | exact TK.kk hT rfl | exact TK.r hT rfl | assumption) rfl ?_
  refine wp_aload0 (pc' := 5) rfl rfl ?_
  refine wp_getRF (pc' := 8) rfl rfl (by first | exact TK.k1 hT rfl | exact TK.kk hT rfl | exact TK.r hT rfl | assumption) (by first | exact TK.k1 hT rfl | exact TK.kk hT rfl | exact TK.r hT rfl | assumption) rfl ?_
  refine wp_callV2 (pc' := 11) rfl rfl rfl rfl rfl (by first | exact TK.k1 hT rfl | exact TK.kk hT rfl | exact TK.r hT rfl | assumption) rfl rfl ?_
  refine c_copy hb13 hb (Or.inr (by decide)) (by rw [hJ1]; exact hr) hkd.2 hN1 ?_
  rw [hRR]
  have hT := TK_18 (b := 13) (v := R 1 18) hT0 (by unfold isSt; omega)
  have hb := TK.s1 hT
  have hb13 := TK.s13 hT
  refine Cont.u ?_
  refine wp_aload0 (pc' := 12) rfl rfl ?_
  refine wp_getRF (pc' := 15) rfl rfl (by first | exact TK.k1 hT rfl | exact TK.kk hT rfl | exact TK.r hT rfl | assumption) (by first | exact TK.k1 hT rfl | exact TK.kk hT rfl | exact TK.r hT rfl | assumption) rfl ?_
  refine wp_iload2 (pc' := 16) rfl rfl ?_
  refine wp_putI (pc' := 19) rfl rfl (by first | exact TK.k1 hT rfl | exact TK.kk hT rfl | exact TK.r hT rfl | assumption) (by omega) rfl ?_
  refine wp_iconst (v := nI 0) (pc' := 20) rfl rfl rfl ?_
  refine wp_istore3 (pc' := 21) rfl (by first | rfl | assumption) rfl ?_
  have lp21 : ∀ r (i : Nat), i + r = k → WP (d + 5) F_202 21 [.ref 0, .int (nI k), .int sd, .int (nI i)] [] (K, tdayM (up2 (cpS J 13 1) 13 16 sd) 13 o H i, L, up2 R 13 18 (R 1 18), n, s) Q := by
    intro r; induction r with
    | zero =>
      intro i hi 
      have hi2 : i = k := by omega
      subst hi2
      refine wp_iload3 (pc' := 22) rfl rfl ?_
      refine wp_iload1 (pc' := 23) rfl rfl ?_
      refine wp_icmpgeT rfl (nI_nlt (by omega) (by omega)) ?_
      refine wp_vret rfl rfl ?_
      exact kk
    | succ r ih =>
      intro i hi 
      have hlt : i < k := by omega
      have hdd := DOk_sky (DOk_tday htr.1 i)
      refine wp_iload3 (pc' := 22) rfl rfl ?_
      refine wp_iload1 (pc' := 23) rfl rfl ?_
      refine wp_icmpgeF (pc' := 26) rfl (nI_lt (by omega) (by omega)) rfl ?_
      refine wp_aload0 (pc' := 27) rfl rfl ?_
      refine wp_getRF (pc' := 30) rfl rfl (by first | exact TK.k1 hT rfl | exact TK.kk hT rfl | exact TK.r hT rfl | assumption) (by first | exact TK.k1 hT rfl | exact TK.kk hT rfl | exact TK.r hT rfl | assumption) rfl ?_
      refine wp_callV1 (pc' := 33) rfl rfl rfl rfl rfl (by first | exact TK.k1 hT rfl | exact TK.kk hT rfl | exact TK.r hT rfl | assumption) rfl rfl ?_
      refine c_drawSky hb13 ?_
      refine Cont.u ?_
      refine wp_aload0 (pc' := 34) rfl rfl ?_
      refine wp_getRF (pc' := 37) rfl rfl (by first | exact TK.k1 hT rfl | exact TK.kk hT rfl | exact TK.r hT rfl | assumption) (by first | exact TK.k1 hT rfl | exact TK.kk hT rfl | exact TK.r hT rfl | assumption) rfl ?_
      refine wp_callV1 (pc' := 40) rfl rfl rfl rfl rfl (by first | exact TK.k1 hT rfl | exact TK.kk hT rfl | exact TK.r hT rfl | assumption) rfl rfl ?_
      refine c_passDay hb13 hdd.1 hdd.2.1 hH6 hdd.2.2 ?_
      refine Cont.v ?_
      refine wp_pop (pc' := 41) rfl rfl rfl ?_
      first | refine wp_iinc3 (w := nI 1) (pc' := 44) rfl rfl rfl (by with_reducible exact nI_add _ _) rfl ?_ | refine wp_iinc3 (w := nI 1) (pc' := 44) rfl rfl rfl rfl rfl ?_
      refine wp_goto rfl ?_
      exact WP.cg (ih (i + 1) (by omega)) (lC1 (lI1 (by rfl) (lI1 (by rfl) (lI1 (by rfl) rfl)))) rfl (by rfl)
  exact WP.cg (lp21 (k - (0)) (0) (by omega)) (lC1 (lI1 (by rfl) (lI1 (by rfl) (lI1 (by rfl) rfl)))) rfl (by rfl)
theorem c_trial1 {d : Nat} {K : Nat → Nat × Nat} {I : Nat → Nat → Int32} {L : Nat → Nat → Int64} {R : Nat → Nat → Option Nat} {n s : Nat} {Q : Lo → Lm → Prop} {x : Int32} {H : Nat} {o : LawT} (hT : TK K R n) (hf : n + 1 ≤ lmCells) (hs : s + 6 ≤ lmSlots) (hD : DOk K R n I 1 o H) (hw : LOw o) (hH6 : H ≤ 6) (hr : I 1 14 = 0 ∨ I 1 14 = 1) (hn1 : Nrm (vw 1 I)) (hn13 : Nrm (vw 13 I)) (kkD : ¬ (¬ x < nI 0 ∧ ¬ nI 60 < x) → Q (.inr n) (exM 14 (K, I, L, R, n, s))) (kk : ∀ k, k ≤ 60 → x = nI k → Q (.inl (some (.int (popC (openS (vw 13 (tryM I (I 1 16) o H k))))))) (K, tryM I (I 1 16) o H k, L, up2 R 13 18 (R 1 18), n, s)) : Ok (d + 7) 201 [.ref 0, .int x, .int (nI 1)] (K, I, L, R, n, s) Q := by
  have hb := TK.s1 hT
  have hb13 := TK.s13 hT
  obtain ⟨-, -, hn⟩ := id hT
  refine Ok.enter (F := F_201) (ls := [.ref 0, .int x, .int (nI 1)]) rfl rfl ?_
  refine wp_iload1 (pc' := 1) rfl rfl ?_
  refine wp_iconst (v := nI 0) (pc' := 2) rfl rfl rfl ?_
  refine wp_bipush (v := nI 60) (pc' := 4) rfl rfl rfl ?_
  refine wp_callS3 (pc' := 7) rfl rfl rfl rfl rfl rfl ?_
  refine c_needDays hf hs (fun he => Cont.e rfl (kkD he)) (fun g1 g2 => ?_)
  obtain ⟨k, k2, rfl⟩ := days0_of (m := 60) (by decide) g1 g2
  refine Cont.u ?_
  refine wp_aload0 (pc' := 8) rfl rfl ?_
  refine wp_iload1 (pc' := 9) rfl rfl ?_
  refine wp_aload0 (pc' := 10) rfl rfl ?_
  refine wp_getRF (pc' := 13) rfl rfl (by first | exact TK.k1 hT rfl | exact TK.kk hT rfl | exact TK.r hT rfl | assumption) (by first | exact TK.k1 hT rfl | exact TK.kk hT rfl | exact TK.r hT rfl | assumption) rfl ?_
  refine wp_getI (pc' := 16) rfl rfl (by first | exact TK.k1 hT rfl | exact TK.kk hT rfl | exact TK.r hT rfl | assumption) rfl ?_
  refine wp_callV3 (pc' := 19) rfl rfl rfl rfl rfl (by first | exact TK.k1 hT rfl | exact TK.kk hT rfl | exact TK.r hT rfl | assumption) rfl rfl ?_
  refine c_tryDays hT (KpD_rfl hn13) hD hw hH6 hr hn1 rfl hT k2 ?_
  have hT := TK_18 (b := 13) (v := R 1 18) hT (by unfold isSt; omega)
  have hb13 := TK.s13 hT
  refine Cont.u ?_
  refine wp_iload2 (pc' := 20) rfl rfl ?_
  refine wp_ifeqF (pc' := 23) rfl (by decide) rfl ?_
  refine wp_aload0 (pc' := 24) rfl rfl ?_
  refine wp_getRF (pc' := 27) rfl rfl (by first | exact TK.k1 hT rfl | exact TK.kk hT rfl | exact TK.r hT rfl | assumption) (by first | exact TK.k1 hT rfl | exact TK.kk hT rfl | exact TK.r hT rfl | assumption) rfl ?_
  refine wp_callV1 (pc' := 30) rfl rfl rfl rfl rfl (by first | exact TK.k1 hT rfl | exact TK.kk hT rfl | exact TK.r hT rfl | assumption) rfl rfl ?_
  refine c_openCells hb13 ?_
  refine Cont.v ?_
  refine wp_callS1 (pc' := 33) rfl rfl rfl rfl rfl rfl ?_
  refine c_bitCount ?_
  refine Cont.v ?_
  refine wp_goto rfl ?_
  refine wp_iret rfl rfl rfl ?_
  exact kk k k2 rfl
theorem c_trial0 {d : Nat} {K : Nat → Nat × Nat} {I : Nat → Nat → Int32} {L : Nat → Nat → Int64} {R : Nat → Nat → Option Nat} {n s : Nat} {Q : Lo → Lm → Prop} {x : Int32} {H : Nat} {o : LawT} (hT : TK K R n) (hf : n + 1 ≤ lmCells) (hs : s + 6 ≤ lmSlots) (hD : DOk K R n I 1 o H) (hw : LOw o) (hH6 : H ≤ 6) (hr : I 1 14 = 0 ∨ I 1 14 = 1) (hn1 : Nrm (vw 1 I)) (hn13 : Nrm (vw 13 I)) (kkD : ¬ (¬ x < nI 0 ∧ ¬ nI 60 < x) → Q (.inr n) (exM 14 (K, I, L, R, n, s))) (kk : ∀ k, k ≤ 60 → x = nI k → Q (.inl (some (.int (sumN (tryM I (I 1 16) o H k 16) 25)))) (K, tryM I (I 1 16) o H k, L, up2 R 13 18 (R 1 18), n, s)) : Ok (d + 7) 201 [.ref 0, .int x, .int (nI 0)] (K, I, L, R, n, s) Q := by
  have hb := TK.s1 hT
  have hb13 := TK.s13 hT
  obtain ⟨-, -, hn⟩ := id hT
  refine Ok.enter (F := F_201) (ls := [.ref 0, .int x, .int (nI 0)]) rfl rfl ?_
  refine wp_iload1 (pc' := 1) rfl rfl ?_
  refine wp_iconst (v := nI 0) (pc' := 2) rfl rfl rfl ?_
  refine wp_bipush (v := nI 60) (pc' := 4) rfl rfl rfl ?_
  refine wp_callS3 (pc' := 7) rfl rfl rfl rfl rfl rfl ?_
  refine c_needDays hf hs (fun he => Cont.e rfl (kkD he)) (fun g1 g2 => ?_)
  obtain ⟨k, k2, rfl⟩ := days0_of (m := 60) (by decide) g1 g2
  refine Cont.u ?_
  refine wp_aload0 (pc' := 8) rfl rfl ?_
  refine wp_iload1 (pc' := 9) rfl rfl ?_
  refine wp_aload0 (pc' := 10) rfl rfl ?_
  refine wp_getRF (pc' := 13) rfl rfl (by first | exact TK.k1 hT rfl | exact TK.kk hT rfl | exact TK.r hT rfl | assumption) (by first | exact TK.k1 hT rfl | exact TK.kk hT rfl | exact TK.r hT rfl | assumption) rfl ?_
  refine wp_getI (pc' := 16) rfl rfl (by first | exact TK.k1 hT rfl | exact TK.kk hT rfl | exact TK.r hT rfl | assumption) rfl ?_
  refine wp_callV3 (pc' := 19) rfl rfl rfl rfl rfl (by first | exact TK.k1 hT rfl | exact TK.kk hT rfl | exact TK.r hT rfl | assumption) rfl rfl ?_
  refine c_tryDays hT (KpD_rfl hn13) hD hw hH6 hr hn1 rfl hT k2 ?_
  have hT := TK_18 (b := 13) (v := R 1 18) hT (by unfold isSt; omega)
  have hb13 := TK.s13 hT
  refine Cont.u ?_
  refine wp_iload2 (pc' := 20) rfl rfl ?_
  refine wp_ifeqT rfl rfl ?_
  refine wp_aload0 (pc' := 37) rfl rfl ?_
  refine wp_getRF (pc' := 40) rfl rfl (by first | exact TK.k1 hT rfl | exact TK.kk hT rfl | exact TK.r hT rfl | assumption) (by first | exact TK.k1 hT rfl | exact TK.kk hT rfl | exact TK.r hT rfl | assumption) rfl ?_
  refine wp_getRF (pc' := 43) rfl rfl (by first | exact TK.k1 hT rfl | exact TK.kk hT rfl | exact TK.r hT rfl | assumption) (by first | exact TK.k1 hT rfl | exact TK.kk hT rfl | exact TK.r hT rfl | assumption) rfl ?_
  refine wp_callS1 (pc' := 46) rfl rfl rfl rfl rfl rfl ?_
  refine c_sum (w := 25) (TK.kk hT rfl) (by decide) ?_
  refine Cont.v ?_
  refine wp_iret rfl rfl rfl ?_
  exact kk k k2 rfl
theorem c_span1 {d : Nat} {K : Nat → Nat × Nat} {I : Nat → Nat → Int32} {L : Nat → Nat → Int64} {R : Nat → Nat → Option Nat} {n s : Nat} {Q : Lo → Lm → Prop} {x : Int32} {H : Nat} {o : LawT} (hT : TK K R n) (hf : n + 1 ≤ lmCells) (hs : s + 6 ≤ lmSlots) (hD : DOk K R n I 1 o H) (hw : LOw o) (hH6 : H ≤ 6) (hr : I 1 14 = 0 ∨ I 1 14 = 1) (hn1 : Nrm (vw 1 I)) (hn13 : Nrm (vw 13 I)) (kkD : ¬ (¬ x < nI 0 ∧ ¬ nI 60 < x) → Q (.inr n) (exM 14 (K, I, L, R, n, s))) (kk : ∀ k, k ≤ 60 → x = nI k → Q (.inl (some (.int ((spanF I o H k true 6).1)))) (K, (spanF I o H k true 6).2, L, up2 R 13 18 (R 1 18), n, s)) : Ok (d + 7) 204 [.ref 0, .int x, .int (nI 1)] (K, I, L, R, n, s) Q := by
  have hT0 := hT
  have hb := TK.s1 hT
  have hb13 := TK.s13 hT
  obtain ⟨-, -, hn⟩ := id hT
  refine Ok.enter (F := F_204) (ls := [.ref 0, .int x, .int (nI 1), lDead, lDead, lDead]) rfl rfl ?_
  refine wp_iload1 (pc' := 1) rfl rfl ?_
  refine wp_iconst (v := nI 0) (pc' := 2) rfl rfl rfl ?_
  refine wp_bipush (v := nI 60) (pc' := 4) rfl rfl rfl ?_
  refine wp_callS3 (pc' := 7) rfl rfl rfl rfl rfl rfl ?_
  refine c_needDays hf hs (fun he => Cont.e rfl (kkD he)) (fun g1 g2 => ?_)
  obtain ⟨k, k2, rfl⟩ := days0_of (m := 60) (by decide) g1 g2
  refine Cont.u ?_
  refine wp_iconst (v := (-1)) (pc' := 8) rfl rfl rfl ?_
  refine wp_istore3 (pc' := 9) rfl (by first | rfl | assumption) rfl ?_
  refine wp_iconst (v := nI 1) (pc' := 10) rfl rfl rfl ?_
  refine wp_istore4 (pc' := 12) rfl (by first | rfl | assumption) rfl ?_
  have lp12 : ∀ r (i : Nat) (R2 : Nat → Nat → Option Nat) (v5 : Value), i + r = 7 → KpD o I (spanF I o H k true (i - 1)).2 → up2 R2 13 18 (R2 1 18) = up2 R 13 18 (R 1 18) → TK K R2 n → 1 ≤ i → (i = 1 ∨ R2 = up2 R 13 18 (R 1 18)) → isL v5 = false → WP (d + 6) F_204 12 [.ref 0, .int (nI k), .int (nI 1), .int (spanF I o H k true (i - 1)).1, .int (nI i), v5] [] (K, (spanF I o H k true (i - 1)).2, L, R2, n, s) Q := by
    intro r; induction r with
    | zero =>
      intro i R2 v5 hi hv0 hv1 hv2 hv3 hv4 hv5
      have hi2 : i = 7 := by omega
      subst hi2
      obtain rfl := hv4.resolve_left (by decide)
      refine wp_iload4 (pc' := 14) rfl rfl ?_
      refine wp_bipush (v := nI 6) (pc' := 16) rfl rfl rfl ?_
      refine wp_icmpgtT rfl (nI_lt (by omega) (by omega)) ?_
      refine wp_iload3 (pc' := 76) rfl rfl ?_
      refine wp_iret rfl rfl rfl ?_
      exact kk k k2 rfl
    | succ r ih =>
      intro i R2 v5 hi hv0 hv1 hv2 hv3 hv4 hv5
      have hlt : i < 7 := by omega
      have hsx : spanF I o H k true (i + 1 - 1) = spanS o H k true i (spanF I o H k true (i - 1)) := by
        rw [show i + 1 - 1 = (i - 1) + 1 by omega]
        show spanS o H k true (1 + (i - 1)) _ = _; rw [show 1 + (i - 1) = i by omega]; rfl
      obtain ⟨f, J, hp⟩ : ∃ f J, spanF I o H k true (i - 1) = (f, J) := ⟨_, _, rfl⟩
      rw [hp] at hsx hv0 ⊢
      dsimp only at hv0 ⊢
      refine wp_iload4 (pc' := 14) rfl rfl ?_
      refine wp_bipush (v := nI 6) (pc' := 16) rfl rfl rfl ?_
      refine wp_icmpgtF (pc' := 19) rfl (nI_nlt (by omega) (by omega)) rfl ?_
      refine wp_aload0 (pc' := 20) rfl rfl ?_
      refine wp_iload1 (pc' := 21) rfl rfl ?_
      refine wp_iload4 (pc' := 23) rfl rfl ?_
      refine wp_callV3 (pc' := 26) rfl rfl rfl rfl rfl (by first | exact TK.k1 hT rfl | exact TK.kk hT rfl | exact TK.r hT rfl | assumption) rfl rfl ?_
      refine c_tryDays hT0 hv0 hD hw hH6 hr hn1 hv1 hv2 k2 ?_
      have hT := TK_18 (b := 13) (v := R 1 18) hT0 (by unfold isSt; omega)
      have hb13 := TK.s13 hT
      refine Cont.u ?_
      refine wp_aload0 (pc' := 27) rfl rfl ?_
      refine wp_getRF (pc' := 30) rfl rfl (by first | exact TK.k1 hT rfl | exact TK.kk hT rfl | exact TK.r hT rfl | assumption) (by first | exact TK.k1 hT rfl | exact TK.kk hT rfl | exact TK.r hT rfl | assumption) rfl ?_
      refine wp_getRF (pc' := 33) rfl rfl (by first | exact TK.k1 hT rfl | exact TK.kk hT rfl | exact TK.r hT rfl | assumption) (by first | exact TK.k1 hT rfl | exact TK.kk hT rfl | exact TK.r hT rfl | assumption) rfl ?_
      refine wp_callS1 (pc' := 36) rfl rfl rfl rfl rfl rfl ?_
      refine c_sum (w := 25) (TK.kk hT rfl) (by decide) ?_
      refine Cont.v ?_
      refine wp_istore5 (pc' := 38) rfl (by first | rfl | assumption) rfl ?_
      refine wp_iload3 (pc' := 39) rfl rfl ?_
      refine wp_iconst (v := (-1)) (pc' := 40) rfl rfl rfl ?_
      refine wp_icmpne (pc' := 43) rfl rfl ?_ ?_
      · intro h40
        refine wp_iload2 (pc' := 50) rfl rfl ?_
        refine wp_ifeqF (pc' := 53) rfl (by decide) rfl ?_
        refine wp_iload3 (pc' := 54) rfl rfl ?_
        refine wp_iload5 (pc' := 56) rfl rfl ?_
        refine wp_max (pc' := 59) rfl rfl rfl rfl ?_
        refine wp_goto rfl ?_
        refine wp_istore3 (pc' := 69) rfl (by first | rfl | assumption) rfl ?_
        first | refine wp_iinc4 (w := nI 1) (pc' := 72) rfl rfl rfl (by with_reducible exact nI_add _ _) rfl ?_ | refine wp_iinc4 (w := nI 1) (pc' := 72) rfl rfl rfl rfl rfl ?_
        refine wp_goto rfl ?_
        exact WP.cg (ih (i + 1) _ _ (by omega) (by rw [hsx]; exact KpD_tday (try_ok hv0 hD hw hn1).2 (try_ok hv0 hD hw hn1).1 k) rr_13 (TK_18 hT0 (by unfold isSt; omega)) (by omega) (Or.inr rfl) (by first | rfl | assumption)) (lC1 (lI1 (by first | with_reducible rfl | (rw [hsx]; simp only [spanS, h40, ↓reduceIte, cond_true, cond_false]; done)) (lI1 (by first | with_reducible rfl | (rw [hsx]; simp only [spanS, h40, ↓reduceIte, cond_true, cond_false]; done)) (lI1 (by first | with_reducible rfl | (rw [hsx]; simp only [spanS, h40, ↓reduceIte, cond_true, cond_false]; done)) (lI1 (by first | with_reducible rfl | (rw [hsx]; simp only [spanS, h40, ↓reduceIte, cond_true, cond_false]; done)) (lC1 rfl)))))) rfl (by rw [hsx]; rfl)
      · intro h40
        refine wp_iload5 (pc' := 45) rfl rfl ?_
        refine wp_istore3 (pc' := 46) rfl (by first | rfl | assumption) rfl ?_
        refine wp_goto rfl ?_
        first | refine wp_iinc4 (w := nI 1) (pc' := 72) rfl rfl rfl (by with_reducible exact nI_add _ _) rfl ?_ | refine wp_iinc4 (w := nI 1) (pc' := 72) rfl rfl rfl rfl rfl ?_
        refine wp_goto rfl ?_
        exact WP.cg (ih (i + 1) _ _ (by omega) (by rw [hsx]; exact KpD_tday (try_ok hv0 hD hw hn1).2 (try_ok hv0 hD hw hn1).1 k) rr_13 (TK_18 hT0 (by unfold isSt; omega)) (by omega) (Or.inr rfl) (by first | rfl | assumption)) (lC1 (lI1 (by first | with_reducible rfl | (rw [hsx]; simp only [spanS, h40, ↓reduceIte, cond_true, cond_false]; done)) (lI1 (by first | with_reducible rfl | (rw [hsx]; simp only [spanS, h40, ↓reduceIte, cond_true, cond_false]; done)) (lI1 (by first | with_reducible rfl | (rw [hsx]; simp only [spanS, h40, ↓reduceIte, cond_true, cond_false]; done)) (lI1 (by first | with_reducible rfl | (rw [hsx]; simp only [spanS, h40, ↓reduceIte, cond_true, cond_false]; done)) (lC1 rfl)))))) rfl (by rw [hsx]; rfl)
  exact WP.cg (lp12 (7 - (1)) (1) _ _ (by omega) (KpD_rfl hn13) rfl hT (by decide) (Or.inl rfl) (by first | rfl | assumption)) (lC1 (lI1 (by rfl) (lI1 (by rfl) (lI1 (by rfl) (lI1 (by rfl) (lC1 rfl)))))) rfl (by rfl)
theorem c_span0 {d : Nat} {K : Nat → Nat × Nat} {I : Nat → Nat → Int32} {L : Nat → Nat → Int64} {R : Nat → Nat → Option Nat} {n s : Nat} {Q : Lo → Lm → Prop} {x : Int32} {H : Nat} {o : LawT} (hT : TK K R n) (hf : n + 1 ≤ lmCells) (hs : s + 6 ≤ lmSlots) (hD : DOk K R n I 1 o H) (hw : LOw o) (hH6 : H ≤ 6) (hr : I 1 14 = 0 ∨ I 1 14 = 1) (hn1 : Nrm (vw 1 I)) (hn13 : Nrm (vw 13 I)) (kkD : ¬ (¬ x < nI 0 ∧ ¬ nI 60 < x) → Q (.inr n) (exM 14 (K, I, L, R, n, s))) (kk : ∀ k, k ≤ 60 → x = nI k → Q (.inl (some (.int ((spanF I o H k false 6).1)))) (K, (spanF I o H k false 6).2, L, up2 R 13 18 (R 1 18), n, s)) : Ok (d + 7) 204 [.ref 0, .int x, .int (nI 0)] (K, I, L, R, n, s) Q := by
  have hT0 := hT
  have hb := TK.s1 hT
  have hb13 := TK.s13 hT
  obtain ⟨-, -, hn⟩ := id hT
  refine Ok.enter (F := F_204) (ls := [.ref 0, .int x, .int (nI 0), lDead, lDead, lDead]) rfl rfl ?_
  refine wp_iload1 (pc' := 1) rfl rfl ?_
  refine wp_iconst (v := nI 0) (pc' := 2) rfl rfl rfl ?_
  refine wp_bipush (v := nI 60) (pc' := 4) rfl rfl rfl ?_
  refine wp_callS3 (pc' := 7) rfl rfl rfl rfl rfl rfl ?_
  refine c_needDays hf hs (fun he => Cont.e rfl (kkD he)) (fun g1 g2 => ?_)
  obtain ⟨k, k2, rfl⟩ := days0_of (m := 60) (by decide) g1 g2
  refine Cont.u ?_
  refine wp_iconst (v := (-1)) (pc' := 8) rfl rfl rfl ?_
  refine wp_istore3 (pc' := 9) rfl (by first | rfl | assumption) rfl ?_
  refine wp_iconst (v := nI 1) (pc' := 10) rfl rfl rfl ?_
  refine wp_istore4 (pc' := 12) rfl (by first | rfl | assumption) rfl ?_
  have lp12 : ∀ r (i : Nat) (R2 : Nat → Nat → Option Nat) (v5 : Value), i + r = 7 → KpD o I (spanF I o H k false (i - 1)).2 → up2 R2 13 18 (R2 1 18) = up2 R 13 18 (R 1 18) → TK K R2 n → 1 ≤ i → (i = 1 ∨ R2 = up2 R 13 18 (R 1 18)) → isL v5 = false → WP (d + 6) F_204 12 [.ref 0, .int (nI k), .int (nI 0), .int (spanF I o H k false (i - 1)).1, .int (nI i), v5] [] (K, (spanF I o H k false (i - 1)).2, L, R2, n, s) Q := by
    intro r; induction r with
    | zero =>
      intro i R2 v5 hi hv0 hv1 hv2 hv3 hv4 hv5
      have hi2 : i = 7 := by omega
      subst hi2
      obtain rfl := hv4.resolve_left (by decide)
      refine wp_iload4 (pc' := 14) rfl rfl ?_
      refine wp_bipush (v := nI 6) (pc' := 16) rfl rfl rfl ?_
      refine wp_icmpgtT rfl (nI_lt (by omega) (by omega)) ?_
      refine wp_iload3 (pc' := 76) rfl rfl ?_
      refine wp_iret rfl rfl rfl ?_
      exact kk k k2 rfl
    | succ r ih =>
      intro i R2 v5 hi hv0 hv1 hv2 hv3 hv4 hv5
      have hlt : i < 7 := by omega
      have hsx : spanF I o H k false (i + 1 - 1) = spanS o H k false i (spanF I o H k false (i - 1)) := by
        rw [show i + 1 - 1 = (i - 1) + 1 by omega]
        show spanS o H k false (1 + (i - 1)) _ = _; rw [show 1 + (i - 1) = i by omega]; rfl
      obtain ⟨f, J, hp⟩ : ∃ f J, spanF I o H k false (i - 1) = (f, J) := ⟨_, _, rfl⟩
      rw [hp] at hsx hv0 ⊢
      dsimp only at hv0 ⊢
      refine wp_iload4 (pc' := 14) rfl rfl ?_
      refine wp_bipush (v := nI 6) (pc' := 16) rfl rfl rfl ?_
      refine wp_icmpgtF (pc' := 19) rfl (nI_nlt (by omega) (by omega)) rfl ?_
      refine wp_aload0 (pc' := 20) rfl rfl ?_
      refine wp_iload1 (pc' := 21) rfl rfl ?_
      refine wp_iload4 (pc' := 23) rfl rfl ?_
      refine wp_callV3 (pc' := 26) rfl rfl rfl rfl rfl (by first | exact TK.k1 hT rfl | exact TK.kk hT rfl | exact TK.r hT rfl | assumption) rfl rfl ?_
      refine c_tryDays hT0 hv0 hD hw hH6 hr hn1 hv1 hv2 k2 ?_
      have hT := TK_18 (b := 13) (v := R 1 18) hT0 (by unfold isSt; omega)
      have hb13 := TK.s13 hT
      refine Cont.u ?_
      refine wp_aload0 (pc' := 27) rfl rfl ?_
      refine wp_getRF (pc' := 30) rfl rfl (by first | exact TK.k1 hT rfl | exact TK.kk hT rfl | exact TK.r hT rfl | assumption) (by first | exact TK.k1 hT rfl | exact TK.kk hT rfl | exact TK.r hT rfl | assumption) rfl ?_
      refine wp_getRF (pc' := 33) rfl rfl (by first | exact TK.k1 hT rfl | exact TK.kk hT rfl | exact TK.r hT rfl | assumption) (by first | exact TK.k1 hT rfl | exact TK.kk hT rfl | exact TK.r hT rfl | assumption) rfl ?_
      refine wp_callS1 (pc' := 36) rfl rfl rfl rfl rfl rfl ?_
      refine c_sum (w := 25) (TK.kk hT rfl) (by decide) ?_
      refine Cont.v ?_
      refine wp_istore5 (pc' := 38) rfl (by first | rfl | assumption) rfl ?_
      refine wp_iload3 (pc' := 39) rfl rfl ?_
      refine wp_iconst (v := (-1)) (pc' := 40) rfl rfl rfl ?_
      refine wp_icmpne (pc' := 43) rfl rfl ?_ ?_
      · intro h40
        refine wp_iload2 (pc' := 50) rfl rfl ?_
        refine wp_ifeqT rfl rfl ?_
        refine wp_iload3 (pc' := 63) rfl rfl ?_
        refine wp_iload5 (pc' := 65) rfl rfl ?_
        refine wp_min (pc' := 68) rfl rfl rfl rfl ?_
        refine wp_istore3 (pc' := 69) rfl (by first | rfl | assumption) rfl ?_
        first | refine wp_iinc4 (w := nI 1) (pc' := 72) rfl rfl rfl (by with_reducible exact nI_add _ _) rfl ?_ | refine wp_iinc4 (w := nI 1) (pc' := 72) rfl rfl rfl rfl rfl ?_
        refine wp_goto rfl ?_
        exact WP.cg (ih (i + 1) _ _ (by omega) (by rw [hsx]; exact KpD_tday (try_ok hv0 hD hw hn1).2 (try_ok hv0 hD hw hn1).1 k) rr_13 (TK_18 hT0 (by unfold isSt; omega)) (by omega) (Or.inr rfl) (by first | rfl | assumption)) (lC1 (lI1 (by first | with_reducible rfl | (rw [hsx]; simp only [spanS, h40, ↓reduceIte, cond_true, cond_false]; done)) (lI1 (by first | with_reducible rfl | (rw [hsx]; simp only [spanS, h40, ↓reduceIte, cond_true, cond_false]; done)) (lI1 (by first | with_reducible rfl | (rw [hsx]; simp only [spanS, h40, ↓reduceIte, cond_true, cond_false]; done)) (lI1 (by first | with_reducible rfl | (rw [hsx]; simp only [spanS, h40, ↓reduceIte, cond_true, cond_false]; done)) (lC1 rfl)))))) rfl (by rw [hsx]; rfl)
      · intro h40
        refine wp_iload5 (pc' := 45) rfl rfl ?_
        refine wp_istore3 (pc' := 46) rfl (by first | rfl | assumption) rfl ?_
        refine wp_goto rfl ?_
        first | refine wp_iinc4 (w := nI 1) (pc' := 72) rfl rfl rfl (by with_reducible exact nI_add _ _) rfl ?_ | refine wp_iinc4 (w := nI 1) (pc' := 72) rfl rfl rfl rfl rfl ?_
        refine wp_goto rfl ?_
        exact WP.cg (ih (i + 1) _ _ (by omega) (by rw [hsx]; exact KpD_tday (try_ok hv0 hD hw hn1).2 (try_ok hv0 hD hw hn1).1 k) rr_13 (TK_18 hT0 (by unfold isSt; omega)) (by omega) (Or.inr rfl) (by first | rfl | assumption)) (lC1 (lI1 (by first | with_reducible rfl | (rw [hsx]; simp only [spanS, h40, ↓reduceIte, cond_true, cond_false]; done)) (lI1 (by first | with_reducible rfl | (rw [hsx]; simp only [spanS, h40, ↓reduceIte, cond_true, cond_false]; done)) (lI1 (by first | with_reducible rfl | (rw [hsx]; simp only [spanS, h40, ↓reduceIte, cond_true, cond_false]; done)) (lI1 (by first | with_reducible rfl | (rw [hsx]; simp only [spanS, h40, ↓reduceIte, cond_true, cond_false]; done)) (lC1 rfl)))))) rfl (by rw [hsx]; rfl)
  exact WP.cg (lp12 (7 - (1)) (1) _ _ (by omega) (KpD_rfl hn13) rfl hT (by decide) (Or.inl rfl) (by first | rfl | assumption)) (lC1 (lI1 (by rfl) (lI1 (by rfl) (lI1 (by rfl) (lI1 (by rfl) (lC1 rfl)))))) rfl (by rfl)
theorem c_cell0 {d : Nat} {K : Nat → Nat × Nat} {I : Nat → Nat → Int32} {L : Nat → Nat → Int64} {R : Nat → Nat → Option Nat} {n s : Nat} {Q : Lo → Lm → Prop} {x : Int32} {H : Nat} {o : LawT} (hT : TK K R n) (hf : n + 1 ≤ lmCells) (hs : s + 6 ≤ lmSlots)  (kkE : ¬ InR x 25 → Q (.inr n) (exM 16 (K, I, L, R, n, s))) (kk : ∀ c, c < 25 → x = nI c → Q (.inl (some (.int (I 2 c)))) (K, I, L, R, n, s)) : Ok (d + 2) 107 [.ref 0, .int x, .int (nI 0)] (K, I, L, R, n, s) Q := by
  have hb := TK.s1 hT
  have hb13 := TK.s13 hT
  obtain ⟨-, -, hn⟩ := id hT
  refine Ok.enter (F := F_107) (ls := [.ref 0, .int x, .int (nI 0)]) rfl rfl ?_
  refine wp_iload1 (pc' := 1) rfl rfl ?_
  refine wp_callS1 (pc' := 4) rfl rfl rfl rfl rfl rfl ?_
  refine c_needCell hf hs (fun he => Cont.e rfl (kkE he)) (fun c hc hx => ?_)
  subst hx
  refine Cont.u ?_
  refine wp_iload2 (pc' := 5) rfl rfl ?_
  refine wp_sw (tg := 88) rfl rfl ?_
  refine wp_aload0 (pc' := 89) rfl rfl ?_
  refine wp_getRF (pc' := 92) rfl rfl (by first | exact TK.k1 hT rfl | exact TK.kk hT rfl | exact TK.r hT rfl | assumption) (by first | exact TK.k1 hT rfl | exact TK.kk hT rfl | exact TK.r hT rfl | assumption) rfl ?_
  refine wp_getRF (pc' := 95) rfl rfl (by first | exact TK.k1 hT rfl | exact TK.kk hT rfl | exact TK.r hT rfl | assumption) (by first | exact TK.k1 hT rfl | exact TK.kk hT rfl | exact TK.r hT rfl | assumption) rfl ?_
  refine wp_iload1 (pc' := 96) rfl rfl ?_
  refine wp_iald _ (pc' := 97) rfl (by first | exact TK.k1 hT rfl | exact TK.kk hT rfl | exact TK.r hT rfl | assumption) (by with_reducible rfl) (by omega) (by first | decide | assumption | omega) rfl ?_
  refine wp_iret rfl rfl rfl ?_
  exact kk c hc rfl
theorem c_cell1 {d : Nat} {K : Nat → Nat × Nat} {I : Nat → Nat → Int32} {L : Nat → Nat → Int64} {R : Nat → Nat → Option Nat} {n s : Nat} {Q : Lo → Lm → Prop} {x : Int32} {H : Nat} {o : LawT} (hT : TK K R n) (hf : n + 1 ≤ lmCells) (hs : s + 6 ≤ lmSlots)  (kkE : ¬ InR x 25 → Q (.inr n) (exM 16 (K, I, L, R, n, s))) (kk : ∀ c, c < 25 → x = nI c → Q (.inl (some (.int (I 3 c)))) (K, I, L, R, n, s)) : Ok (d + 2) 107 [.ref 0, .int x, .int (nI 1)] (K, I, L, R, n, s) Q := by
  have hb := TK.s1 hT
  have hb13 := TK.s13 hT
  obtain ⟨-, -, hn⟩ := id hT
  refine Ok.enter (F := F_107) (ls := [.ref 0, .int x, .int (nI 1)]) rfl rfl ?_
  refine wp_iload1 (pc' := 1) rfl rfl ?_
  refine wp_callS1 (pc' := 4) rfl rfl rfl rfl rfl rfl ?_
  refine c_needCell hf hs (fun he => Cont.e rfl (kkE he)) (fun c hc hx => ?_)
  subst hx
  refine Cont.u ?_
  refine wp_iload2 (pc' := 5) rfl rfl ?_
  refine wp_sw (tg := 98) rfl rfl ?_
  refine wp_aload0 (pc' := 99) rfl rfl ?_
  refine wp_getRF (pc' := 102) rfl rfl (by first | exact TK.k1 hT rfl | exact TK.kk hT rfl | exact TK.r hT rfl | assumption) (by first | exact TK.k1 hT rfl | exact TK.kk hT rfl | exact TK.r hT rfl | assumption) rfl ?_
  refine wp_getRF (pc' := 105) rfl rfl (by first | exact TK.k1 hT rfl | exact TK.kk hT rfl | exact TK.r hT rfl | assumption) (by first | exact TK.k1 hT rfl | exact TK.kk hT rfl | exact TK.r hT rfl | assumption) rfl ?_
  refine wp_iload1 (pc' := 106) rfl rfl ?_
  refine wp_iald _ (pc' := 107) rfl (by first | exact TK.k1 hT rfl | exact TK.kk hT rfl | exact TK.r hT rfl | assumption) (by with_reducible rfl) (by omega) (by first | decide | assumption | omega) rfl ?_
  refine wp_iret rfl rfl rfl ?_
  exact kk c hc rfl
theorem c_cell2 {d : Nat} {K : Nat → Nat × Nat} {I : Nat → Nat → Int32} {L : Nat → Nat → Int64} {R : Nat → Nat → Option Nat} {n s : Nat} {Q : Lo → Lm → Prop} {x : Int32} {H : Nat} {o : LawT} (hT : TK K R n) (hf : n + 1 ≤ lmCells) (hs : s + 6 ≤ lmSlots)  (kkE : ¬ InR x 25 → Q (.inr n) (exM 16 (K, I, L, R, n, s))) (kk : ∀ c, c < 25 → x = nI c → Q (.inl (some (.int (jshr (I 1 11) (nI c) &&& nI 1)))) (K, I, L, R, n, s)) : Ok (d + 2) 107 [.ref 0, .int x, .int (nI 2)] (K, I, L, R, n, s) Q := by
  have hb := TK.s1 hT
  have hb13 := TK.s13 hT
  obtain ⟨-, -, hn⟩ := id hT
  refine Ok.enter (F := F_107) (ls := [.ref 0, .int x, .int (nI 2)]) rfl rfl ?_
  refine wp_iload1 (pc' := 1) rfl rfl ?_
  refine wp_callS1 (pc' := 4) rfl rfl rfl rfl rfl rfl ?_
  refine c_needCell hf hs (fun he => Cont.e rfl (kkE he)) (fun c hc hx => ?_)
  subst hx
  refine Cont.u ?_
  refine wp_iload2 (pc' := 5) rfl rfl ?_
  refine wp_sw (tg := 108) rfl rfl ?_
  refine wp_aload0 (pc' := 109) rfl rfl ?_
  refine wp_getRF (pc' := 112) rfl rfl (by first | exact TK.k1 hT rfl | exact TK.kk hT rfl | exact TK.r hT rfl | assumption) (by first | exact TK.k1 hT rfl | exact TK.kk hT rfl | exact TK.r hT rfl | assumption) rfl ?_
  refine wp_getI (pc' := 115) rfl rfl (by first | exact TK.k1 hT rfl | exact TK.kk hT rfl | exact TK.r hT rfl | assumption) rfl ?_
  refine wp_iload1 (pc' := 116) rfl rfl ?_
  refine wp_ishr (pc' := 117) rfl rfl ?_
  refine wp_iconst (v := nI 1) (pc' := 118) rfl rfl rfl ?_
  refine wp_iand (pc' := 119) rfl rfl ?_
  refine wp_iret rfl rfl rfl ?_
  exact kk c hc rfl
theorem c_cell3 {d : Nat} {K : Nat → Nat × Nat} {I : Nat → Nat → Int32} {L : Nat → Nat → Int64} {R : Nat → Nat → Option Nat} {n s : Nat} {Q : Lo → Lm → Prop} {x : Int32} {H : Nat} {o : LawT} (hT : TK K R n) (hf : n + 1 ≤ lmCells) (hs : s + 6 ≤ lmSlots)  (kkE : ¬ InR x 25 → Q (.inr n) (exM 16 (K, I, L, R, n, s))) (kk : ∀ c, c < 25 → x = nI c → Q (.inl (some (.int (I 4 c)))) (K, I, L, R, n, s)) : Ok (d + 2) 107 [.ref 0, .int x, .int (nI 3)] (K, I, L, R, n, s) Q := by
  have hb := TK.s1 hT
  have hb13 := TK.s13 hT
  obtain ⟨-, -, hn⟩ := id hT
  refine Ok.enter (F := F_107) (ls := [.ref 0, .int x, .int (nI 3)]) rfl rfl ?_
  refine wp_iload1 (pc' := 1) rfl rfl ?_
  refine wp_callS1 (pc' := 4) rfl rfl rfl rfl rfl rfl ?_
  refine c_needCell hf hs (fun he => Cont.e rfl (kkE he)) (fun c hc hx => ?_)
  subst hx
  refine Cont.u ?_
  refine wp_iload2 (pc' := 5) rfl rfl ?_
  refine wp_sw (tg := 120) rfl rfl ?_
  refine wp_aload0 (pc' := 121) rfl rfl ?_
  refine wp_getRF (pc' := 124) rfl rfl (by first | exact TK.k1 hT rfl | exact TK.kk hT rfl | exact TK.r hT rfl | assumption) (by first | exact TK.k1 hT rfl | exact TK.kk hT rfl | exact TK.r hT rfl | assumption) rfl ?_
  refine wp_getRF (pc' := 127) rfl rfl (by first | exact TK.k1 hT rfl | exact TK.kk hT rfl | exact TK.r hT rfl | assumption) (by first | exact TK.k1 hT rfl | exact TK.kk hT rfl | exact TK.r hT rfl | assumption) rfl ?_
  refine wp_iload1 (pc' := 128) rfl rfl ?_
  refine wp_iald _ (pc' := 129) rfl (by first | exact TK.k1 hT rfl | exact TK.kk hT rfl | exact TK.r hT rfl | assumption) (by with_reducible rfl) (by omega) (by first | decide | assumption | omega) rfl ?_
  refine wp_iret rfl rfl rfl ?_
  exact kk c hc rfl
theorem c_cell4 {d : Nat} {K : Nat → Nat × Nat} {I : Nat → Nat → Int32} {L : Nat → Nat → Int64} {R : Nat → Nat → Option Nat} {n s : Nat} {Q : Lo → Lm → Prop} {x : Int32} {H : Nat} {o : LawT} (hT : TK K R n) (hf : n + 1 ≤ lmCells) (hs : s + 6 ≤ lmSlots)  (kkE : ¬ InR x 25 → Q (.inr n) (exM 16 (K, I, L, R, n, s))) (kk : ∀ c, c < 25 → x = nI c → Q (.inl (some (.int (I 5 c)))) (K, I, L, R, n, s)) : Ok (d + 2) 107 [.ref 0, .int x, .int (nI 4)] (K, I, L, R, n, s) Q := by
  have hb := TK.s1 hT
  have hb13 := TK.s13 hT
  obtain ⟨-, -, hn⟩ := id hT
  refine Ok.enter (F := F_107) (ls := [.ref 0, .int x, .int (nI 4)]) rfl rfl ?_
  refine wp_iload1 (pc' := 1) rfl rfl ?_
  refine wp_callS1 (pc' := 4) rfl rfl rfl rfl rfl rfl ?_
  refine c_needCell hf hs (fun he => Cont.e rfl (kkE he)) (fun c hc hx => ?_)
  subst hx
  refine Cont.u ?_
  refine wp_iload2 (pc' := 5) rfl rfl ?_
  refine wp_sw (tg := 130) rfl rfl ?_
  refine wp_aload0 (pc' := 131) rfl rfl ?_
  refine wp_getRF (pc' := 134) rfl rfl (by first | exact TK.k1 hT rfl | exact TK.kk hT rfl | exact TK.r hT rfl | assumption) (by first | exact TK.k1 hT rfl | exact TK.kk hT rfl | exact TK.r hT rfl | assumption) rfl ?_
  refine wp_getRF (pc' := 137) rfl rfl (by first | exact TK.k1 hT rfl | exact TK.kk hT rfl | exact TK.r hT rfl | assumption) (by first | exact TK.k1 hT rfl | exact TK.kk hT rfl | exact TK.r hT rfl | assumption) rfl ?_
  refine wp_iload1 (pc' := 138) rfl rfl ?_
  refine wp_iald _ (pc' := 139) rfl (by first | exact TK.k1 hT rfl | exact TK.kk hT rfl | exact TK.r hT rfl | assumption) (by with_reducible rfl) (by omega) (by first | decide | assumption | omega) rfl ?_
  refine wp_iret rfl rfl rfl ?_
  exact kk c hc rfl
theorem c_cell5 {d : Nat} {K : Nat → Nat × Nat} {I : Nat → Nat → Int32} {L : Nat → Nat → Int64} {R : Nat → Nat → Option Nat} {n s : Nat} {Q : Lo → Lm → Prop} {x : Int32} {H : Nat} {o : LawT} (hT : TK K R n) (hf : n + 1 ≤ lmCells) (hs : s + 6 ≤ lmSlots)  (kkE : ¬ InR x 25 → Q (.inr n) (exM 16 (K, I, L, R, n, s))) (kk : ∀ c, c < 25 → x = nI c → Q (.inl (some (.int (I 6 c)))) (K, I, L, R, n, s)) : Ok (d + 2) 107 [.ref 0, .int x, .int (nI 5)] (K, I, L, R, n, s) Q := by
  have hb := TK.s1 hT
  have hb13 := TK.s13 hT
  obtain ⟨-, -, hn⟩ := id hT
  refine Ok.enter (F := F_107) (ls := [.ref 0, .int x, .int (nI 5)]) rfl rfl ?_
  refine wp_iload1 (pc' := 1) rfl rfl ?_
  refine wp_callS1 (pc' := 4) rfl rfl rfl rfl rfl rfl ?_
  refine c_needCell hf hs (fun he => Cont.e rfl (kkE he)) (fun c hc hx => ?_)
  subst hx
  refine Cont.u ?_
  refine wp_iload2 (pc' := 5) rfl rfl ?_
  refine wp_sw (tg := 140) rfl rfl ?_
  refine wp_aload0 (pc' := 141) rfl rfl ?_
  refine wp_getRF (pc' := 144) rfl rfl (by first | exact TK.k1 hT rfl | exact TK.kk hT rfl | exact TK.r hT rfl | assumption) (by first | exact TK.k1 hT rfl | exact TK.kk hT rfl | exact TK.r hT rfl | assumption) rfl ?_
  refine wp_getRF (pc' := 147) rfl rfl (by first | exact TK.k1 hT rfl | exact TK.kk hT rfl | exact TK.r hT rfl | assumption) (by first | exact TK.k1 hT rfl | exact TK.kk hT rfl | exact TK.r hT rfl | assumption) rfl ?_
  refine wp_iload1 (pc' := 148) rfl rfl ?_
  refine wp_iald _ (pc' := 149) rfl (by first | exact TK.k1 hT rfl | exact TK.kk hT rfl | exact TK.r hT rfl | assumption) (by with_reducible rfl) (by omega) (by first | decide | assumption | omega) rfl ?_
  refine wp_iret rfl rfl rfl ?_
  exact kk c hc rfl
theorem c_cell6 {d : Nat} {K : Nat → Nat × Nat} {I : Nat → Nat → Int32} {L : Nat → Nat → Int64} {R : Nat → Nat → Option Nat} {n s : Nat} {Q : Lo → Lm → Prop} {x : Int32} {H : Nat} {o : LawT} (hT : TK K R n) (hf : n + 1 ≤ lmCells) (hs : s + 6 ≤ lmSlots)  (kkE : ¬ InR x 25 → Q (.inr n) (exM 16 (K, I, L, R, n, s))) (kk : ∀ c, c < 25 → x = nI c → Q (.inl (some (.int (jshr (drainC (I 1 11)) (nI c) &&& nI 1)))) (K, I, L, R, n, s)) : Ok (d + 5) 107 [.ref 0, .int x, .int (nI 6)] (K, I, L, R, n, s) Q := by
  have hb := TK.s1 hT
  have hb13 := TK.s13 hT
  obtain ⟨-, -, hn⟩ := id hT
  refine Ok.enter (F := F_107) (ls := [.ref 0, .int x, .int (nI 6)]) rfl rfl ?_
  refine wp_iload1 (pc' := 1) rfl rfl ?_
  refine wp_callS1 (pc' := 4) rfl rfl rfl rfl rfl rfl ?_
  refine c_needCell hf hs (fun he => Cont.e rfl (kkE he)) (fun c hc hx => ?_)
  subst hx
  refine Cont.u ?_
  refine wp_iload2 (pc' := 5) rfl rfl ?_
  refine wp_sw (tg := 150) rfl rfl ?_
  refine wp_aload0 (pc' := 151) rfl rfl ?_
  refine wp_getRF (pc' := 154) rfl rfl (by first | exact TK.k1 hT rfl | exact TK.kk hT rfl | exact TK.r hT rfl | assumption) (by first | exact TK.k1 hT rfl | exact TK.kk hT rfl | exact TK.r hT rfl | assumption) rfl ?_
  refine wp_callV1 (pc' := 157) rfl rfl rfl rfl rfl (by first | exact TK.k1 hT rfl | exact TK.kk hT rfl | exact TK.r hT rfl | assumption) rfl rfl ?_
  refine c_drained hb ?_
  refine Cont.v ?_
  refine wp_iload1 (pc' := 158) rfl rfl ?_
  refine wp_ishr (pc' := 159) rfl rfl ?_
  refine wp_iconst (v := nI 1) (pc' := 160) rfl rfl rfl ?_
  refine wp_iand (pc' := 161) rfl rfl ?_
  refine wp_iret rfl rfl rfl ?_
  exact kk c hc rfl
theorem c_cell7 {d : Nat} {K : Nat → Nat × Nat} {I : Nat → Nat → Int32} {L : Nat → Nat → Int64} {R : Nat → Nat → Option Nat} {n s : Nat} {Q : Lo → Lm → Prop} {x : Int32} {H : Nat} {o : LawT} (hT : TK K R n) (hf : n + 1 ≤ lmCells) (hs : s + 6 ≤ lmSlots)  (kkE : ¬ InR x 25 → Q (.inr n) (exM 16 (K, I, L, R, n, s))) (kk : ∀ c, c < 25 → x = nI c → Q (.inl (some (.int (jshr (lettC (drainC (I 1 11))) (nI c) &&& nI 1)))) (K, I, L, R, n, s)) : Ok (d + 5) 107 [.ref 0, .int x, .int (nI 7)] (K, I, L, R, n, s) Q := by
  have hb := TK.s1 hT
  have hb13 := TK.s13 hT
  obtain ⟨-, -, hn⟩ := id hT
  refine Ok.enter (F := F_107) (ls := [.ref 0, .int x, .int (nI 7)]) rfl rfl ?_
  refine wp_iload1 (pc' := 1) rfl rfl ?_
  refine wp_callS1 (pc' := 4) rfl rfl rfl rfl rfl rfl ?_
  refine c_needCell hf hs (fun he => Cont.e rfl (kkE he)) (fun c hc hx => ?_)
  subst hx
  refine Cont.u ?_
  refine wp_iload2 (pc' := 5) rfl rfl ?_
  refine wp_sw (tg := 162) rfl rfl ?_
  refine wp_aload0 (pc' := 163) rfl rfl ?_
  refine wp_getRF (pc' := 166) rfl rfl (by first | exact TK.k1 hT rfl | exact TK.kk hT rfl | exact TK.r hT rfl | assumption) (by first | exact TK.k1 hT rfl | exact TK.kk hT rfl | exact TK.r hT rfl | assumption) rfl ?_
  refine wp_callV1 (pc' := 169) rfl rfl rfl rfl rfl (by first | exact TK.k1 hT rfl | exact TK.kk hT rfl | exact TK.r hT rfl | assumption) rfl rfl ?_
  refine c_drained hb ?_
  refine Cont.v ?_
  refine wp_callS1 (pc' := 172) rfl rfl rfl rfl rfl rfl ?_
  refine c_letting ?_
  refine Cont.v ?_
  refine wp_iload1 (pc' := 173) rfl rfl ?_
  refine wp_ishr (pc' := 174) rfl rfl ?_
  refine wp_iconst (v := nI 1) (pc' := 175) rfl rfl rfl ?_
  refine wp_iand (pc' := 176) rfl rfl ?_
  refine wp_iret rfl rfl rfl ?_
  exact kk c hc rfl
theorem c_cell8 {d : Nat} {K : Nat → Nat × Nat} {I : Nat → Nat → Int32} {L : Nat → Nat → Int64} {R : Nat → Nat → Option Nat} {n s : Nat} {Q : Lo → Lm → Prop} {x : Int32} {H : Nat} {o : LawT} (hT : TK K R n) (hf : n + 1 ≤ lmCells) (hs : s + 6 ≤ lmSlots)  (kkE : ¬ InR x 25 → Q (.inr n) (exM 16 (K, I, L, R, n, s))) (kk : ∀ c, c < 25 → x = nI c → Q (.inl (some (.int (if openQ (vw 1 I) c then nI 1 else nI 0)))) (K, I, L, R, n, s)) : Ok (d + 3) 107 [.ref 0, .int x, .int (nI 8)] (K, I, L, R, n, s) Q := by
  have hb := TK.s1 hT
  have hb13 := TK.s13 hT
  obtain ⟨-, -, hn⟩ := id hT
  refine Ok.enter (F := F_107) (ls := [.ref 0, .int x, .int (nI 8)]) rfl rfl ?_
  refine wp_iload1 (pc' := 1) rfl rfl ?_
  refine wp_callS1 (pc' := 4) rfl rfl rfl rfl rfl rfl ?_
  refine c_needCell hf hs (fun he => Cont.e rfl (kkE he)) (fun c hc hx => ?_)
  subst hx
  refine Cont.u ?_
  refine wp_iload2 (pc' := 5) rfl rfl ?_
  refine wp_sw (tg := 177) rfl rfl ?_
  refine wp_aload0 (pc' := 178) rfl rfl ?_
  refine wp_getRF (pc' := 181) rfl rfl (by first | exact TK.k1 hT rfl | exact TK.kk hT rfl | exact TK.r hT rfl | assumption) (by first | exact TK.k1 hT rfl | exact TK.kk hT rfl | exact TK.r hT rfl | assumption) rfl ?_
  refine wp_iload1 (pc' := 182) rfl rfl ?_
  refine wp_callV2 (pc' := 185) rfl rfl rfl rfl rfl (by first | exact TK.k1 hT rfl | exact TK.kk hT rfl | exact TK.r hT rfl | assumption) rfl rfl ?_
  refine c_isOpen hb hc ?_
  refine Cont.v ?_
  refine wp_callS1 (pc' := 188) rfl rfl rfl rfl rfl rfl ?_
  refine c_oneIf ?_
  refine Cont.v ?_
  refine wp_iret rfl rfl rfl ?_
  exact kk c hc rfl
theorem c_cell9 {d : Nat} {K : Nat → Nat × Nat} {I : Nat → Nat → Int32} {L : Nat → Nat → Int64} {R : Nat → Nat → Option Nat} {n s : Nat} {Q : Lo → Lm → Prop} {x : Int32} {H : Nat} {o : LawT} (hT : TK K R n) (hf : n + 1 ≤ lmCells) (hs : s + 6 ≤ lmSlots) (hlo : LO K R n I 1 o) (hw : LOw o) (kkE : ¬ InR x 25 → Q (.inr n) (exM 16 (K, I, L, R, n, s))) (kk : ∀ c, c < 25 → x = nI c → Q (.inl (some (.int ((gainF I 1 c (drainC (I 1 11)) o).1)))) (K, (gainF I 1 c (drainC (I 1 11)) o).2, L, R, n, s)) : Ok (d + 6) 107 [.ref 0, .int x, .int (nI 9)] (K, I, L, R, n, s) Q := by
  have hb := TK.s1 hT
  have hb13 := TK.s13 hT
  obtain ⟨-, -, hn⟩ := id hT
  refine Ok.enter (F := F_107) (ls := [.ref 0, .int x, .int (nI 9)]) rfl rfl ?_
  refine wp_iload1 (pc' := 1) rfl rfl ?_
  refine wp_callS1 (pc' := 4) rfl rfl rfl rfl rfl rfl ?_
  refine c_needCell hf hs (fun he => Cont.e rfl (kkE he)) (fun c hc hx => ?_)
  subst hx
  refine Cont.u ?_
  refine wp_iload2 (pc' := 5) rfl rfl ?_
  refine wp_sw (tg := 189) rfl rfl ?_
  refine wp_aload0 (pc' := 190) rfl rfl ?_
  refine wp_getRF (pc' := 193) rfl rfl (by first | exact TK.k1 hT rfl | exact TK.kk hT rfl | exact TK.r hT rfl | assumption) (by first | exact TK.k1 hT rfl | exact TK.kk hT rfl | exact TK.r hT rfl | assumption) rfl ?_
  refine wp_iload1 (pc' := 194) rfl rfl ?_
  refine wp_aload0 (pc' := 195) rfl rfl ?_
  refine wp_getRF (pc' := 198) rfl rfl (by first | exact TK.k1 hT rfl | exact TK.kk hT rfl | exact TK.r hT rfl | assumption) (by first | exact TK.k1 hT rfl | exact TK.kk hT rfl | exact TK.r hT rfl | assumption) rfl ?_
  refine wp_callV1 (pc' := 201) rfl rfl rfl rfl rfl (by first | exact TK.k1 hT rfl | exact TK.kk hT rfl | exact TK.r hT rfl | assumption) rfl rfl ?_
  refine c_drained hb ?_
  refine Cont.v ?_
  refine wp_callV3 (pc' := 204) rfl rfl rfl rfl rfl (by first | exact TK.k1 hT rfl | exact TK.kk hT rfl | exact TK.r hT rfl | assumption) rfl rfl ?_
  refine c_gain hb hc hlo ?_
  refine Cont.v ?_
  refine wp_iret rfl rfl rfl ?_
  exact kk c hc rfl
theorem c_cell10 {d : Nat} {K : Nat → Nat × Nat} {I : Nat → Nat → Int32} {L : Nat → Nat → Int64} {R : Nat → Nat → Option Nat} {n s : Nat} {Q : Lo → Lm → Prop} {x : Int32} {H : Nat} {o : LawT} (hT : TK K R n) (hf : n + 1 ≤ lmCells) (hs : s + 6 ≤ lmSlots) (hlo : LO K R n I 1 o) (hw : LOw o) (kkE : ¬ InR x 25 → Q (.inr n) (exM 16 (K, I, L, R, n, s))) (kk : ∀ c, c < 25 → x = nI c → Q (.inl (some (.int ((sinkF I 1 c (drainC (I 1 11)) o).1)))) (K, (sinkF I 1 c (drainC (I 1 11)) o).2, L, R, n, s)) : Ok (d + 6) 107 [.ref 0, .int x, .int (nI 10)] (K, I, L, R, n, s) Q := by
  have hb := TK.s1 hT
  have hb13 := TK.s13 hT
  obtain ⟨-, -, hn⟩ := id hT
  refine Ok.enter (F := F_107) (ls := [.ref 0, .int x, .int (nI 10)]) rfl rfl ?_
  refine wp_iload1 (pc' := 1) rfl rfl ?_
  refine wp_callS1 (pc' := 4) rfl rfl rfl rfl rfl rfl ?_
  refine c_needCell hf hs (fun he => Cont.e rfl (kkE he)) (fun c hc hx => ?_)
  subst hx
  refine Cont.u ?_
  refine wp_iload2 (pc' := 5) rfl rfl ?_
  refine wp_sw (tg := 205) rfl rfl ?_
  refine wp_aload0 (pc' := 206) rfl rfl ?_
  refine wp_getRF (pc' := 209) rfl rfl (by first | exact TK.k1 hT rfl | exact TK.kk hT rfl | exact TK.r hT rfl | assumption) (by first | exact TK.k1 hT rfl | exact TK.kk hT rfl | exact TK.r hT rfl | assumption) rfl ?_
  refine wp_iload1 (pc' := 210) rfl rfl ?_
  refine wp_aload0 (pc' := 211) rfl rfl ?_
  refine wp_getRF (pc' := 214) rfl rfl (by first | exact TK.k1 hT rfl | exact TK.kk hT rfl | exact TK.r hT rfl | assumption) (by first | exact TK.k1 hT rfl | exact TK.kk hT rfl | exact TK.r hT rfl | assumption) rfl ?_
  refine wp_callV1 (pc' := 217) rfl rfl rfl rfl rfl (by first | exact TK.k1 hT rfl | exact TK.kk hT rfl | exact TK.r hT rfl | assumption) rfl rfl ?_
  refine c_drained hb ?_
  refine Cont.v ?_
  refine wp_callV3 (pc' := 220) rfl rfl rfl rfl rfl (by first | exact TK.k1 hT rfl | exact TK.kk hT rfl | exact TK.r hT rfl | assumption) rfl rfl ?_
  refine c_sinks hb hc hlo ?_
  refine Cont.v ?_
  refine wp_iret rfl rfl rfl ?_
  exact kk c hc rfl
theorem c_cell11 {d : Nat} {K : Nat → Nat × Nat} {I : Nat → Nat → Int32} {L : Nat → Nat → Int64} {R : Nat → Nat → Option Nat} {n s : Nat} {Q : Lo → Lm → Prop} {x : Int32} {H : Nat} {o : LawT} (hT : TK K R n) (hf : n + 1 ≤ lmCells) (hs : s + 6 ≤ lmSlots)  (kkE : ¬ InR x 25 → Q (.inr n) (exM 16 (K, I, L, R, n, s))) (kk : ∀ c, c < 25 → x = nI c → Q (.inl (some (.int (ditF (I 1 11) c 26 0 (drainC (I 1 11)))))) (K, I, L, R, n, s)) : Ok (d + 5) 107 [.ref 0, .int x, .int (nI 11)] (K, I, L, R, n, s) Q := by
  have hb := TK.s1 hT
  have hb13 := TK.s13 hT
  obtain ⟨-, -, hn⟩ := id hT
  refine Ok.enter (F := F_107) (ls := [.ref 0, .int x, .int (nI 11)]) rfl rfl ?_
  refine wp_iload1 (pc' := 1) rfl rfl ?_
  refine wp_callS1 (pc' := 4) rfl rfl rfl rfl rfl rfl ?_
  refine c_needCell hf hs (fun he => Cont.e rfl (kkE he)) (fun c hc hx => ?_)
  subst hx
  refine Cont.u ?_
  refine wp_iload2 (pc' := 5) rfl rfl ?_
  refine wp_sw (tg := 221) rfl rfl ?_
  refine wp_aload0 (pc' := 222) rfl rfl ?_
  refine wp_getRF (pc' := 225) rfl rfl (by first | exact TK.k1 hT rfl | exact TK.kk hT rfl | exact TK.r hT rfl | assumption) (by first | exact TK.k1 hT rfl | exact TK.kk hT rfl | exact TK.r hT rfl | assumption) rfl ?_
  refine wp_getI (pc' := 228) rfl rfl (by first | exact TK.k1 hT rfl | exact TK.kk hT rfl | exact TK.r hT rfl | assumption) rfl ?_
  refine wp_iload1 (pc' := 229) rfl rfl ?_
  refine wp_callS2 (pc' := 232) rfl rfl rfl rfl rfl rfl ?_
  refine c_ditch ?_
  refine Cont.v ?_
  refine wp_iret rfl rfl rfl ?_
  exact kk c hc rfl
theorem c_cell12 {d : Nat} {K : Nat → Nat × Nat} {I : Nat → Nat → Int32} {L : Nat → Nat → Int64} {R : Nat → Nat → Option Nat} {n s : Nat} {Q : Lo → Lm → Prop} {x : Int32} {H : Nat} {o : LawT} (hT : TK K R n) (hf : n + 1 ≤ lmCells) (hs : s + 6 ≤ lmSlots) (hlo : LO K R n I 1 o) (hw : LOw o) (kkE : ¬ InR x 25 → Q (.inr n) (exM 16 (K, I, L, R, n, s))) (kk : ∀ c, c < 25 → x = nI c → Q (.inl (some (.int (rankM I 1 o 47 c / nI 32)))) (K, rankM I 1 o, L, R, n, s)) : Ok (d + 8) 107 [.ref 0, .int x, .int (nI 12)] (K, I, L, R, n, s) Q := by
  have hb := TK.s1 hT
  have hb13 := TK.s13 hT
  obtain ⟨-, -, hn⟩ := id hT
  refine Ok.enter (F := F_107) (ls := [.ref 0, .int x, .int (nI 12)]) rfl rfl ?_
  refine wp_iload1 (pc' := 1) rfl rfl ?_
  refine wp_callS1 (pc' := 4) rfl rfl rfl rfl rfl rfl ?_
  refine c_needCell hf hs (fun he => Cont.e rfl (kkE he)) (fun c hc hx => ?_)
  subst hx
  refine Cont.u ?_
  refine wp_iload2 (pc' := 5) rfl rfl ?_
  refine wp_sw (tg := 233) rfl rfl ?_
  refine wp_aload0 (pc' := 234) rfl rfl ?_
  refine wp_getRF (pc' := 237) rfl rfl (by first | exact TK.k1 hT rfl | exact TK.kk hT rfl | exact TK.r hT rfl | assumption) (by first | exact TK.k1 hT rfl | exact TK.kk hT rfl | exact TK.r hT rfl | assumption) rfl ?_
  refine wp_aload0 (pc' := 238) rfl rfl ?_
  refine wp_getRF (pc' := 241) rfl rfl (by first | exact TK.k1 hT rfl | exact TK.kk hT rfl | exact TK.r hT rfl | assumption) (by first | exact TK.k1 hT rfl | exact TK.kk hT rfl | exact TK.r hT rfl | assumption) rfl ?_
  refine wp_iload1 (pc' := 242) rfl rfl ?_
  refine wp_callV3 (pc' := 245) rfl rfl rfl rfl rfl (by first | exact TK.k1 hT rfl | exact TK.kk hT rfl | exact TK.r hT rfl | assumption) rfl rfl ?_
  refine c_leastSinks hT hb (by decide) hlo hw hc ?_
  refine Cont.v ?_
  refine wp_iret rfl rfl rfl ?_
  exact kk c hc rfl
theorem c_cell13 {d : Nat} {K : Nat → Nat × Nat} {I : Nat → Nat → Int32} {L : Nat → Nat → Int64} {R : Nat → Nat → Option Nat} {n s : Nat} {Q : Lo → Lm → Prop} {x : Int32} {H : Nat} {o : LawT} (hT : TK K R n) (hf : n + 1 ≤ lmCells) (hs : s + 6 ≤ lmSlots) (hlo : LO K R n I 1 o) (hw : LOw o) (kkE : ¬ InR x 25 → Q (.inr n) (exM 16 (K, I, L, R, n, s))) (kk : ∀ c, c < 25 → x = nI c → Q (.inl (some (.int (jrem (rankM I 1 o 47 c) (nI 32))))) (K, rankM I 1 o, L, R, n, s)) : Ok (d + 8) 107 [.ref 0, .int x, .int (nI 13)] (K, I, L, R, n, s) Q := by
  have hb := TK.s1 hT
  have hb13 := TK.s13 hT
  obtain ⟨-, -, hn⟩ := id hT
  refine Ok.enter (F := F_107) (ls := [.ref 0, .int x, .int (nI 13)]) rfl rfl ?_
  refine wp_iload1 (pc' := 1) rfl rfl ?_
  refine wp_callS1 (pc' := 4) rfl rfl rfl rfl rfl rfl ?_
  refine c_needCell hf hs (fun he => Cont.e rfl (kkE he)) (fun c hc hx => ?_)
  subst hx
  refine Cont.u ?_
  refine wp_iload2 (pc' := 5) rfl rfl ?_
  refine wp_sw (tg := 246) rfl rfl ?_
  refine wp_aload0 (pc' := 247) rfl rfl ?_
  refine wp_getRF (pc' := 250) rfl rfl (by first | exact TK.k1 hT rfl | exact TK.kk hT rfl | exact TK.r hT rfl | assumption) (by first | exact TK.k1 hT rfl | exact TK.kk hT rfl | exact TK.r hT rfl | assumption) rfl ?_
  refine wp_aload0 (pc' := 251) rfl rfl ?_
  refine wp_getRF (pc' := 254) rfl rfl (by first | exact TK.k1 hT rfl | exact TK.kk hT rfl | exact TK.r hT rfl | assumption) (by first | exact TK.k1 hT rfl | exact TK.kk hT rfl | exact TK.r hT rfl | assumption) rfl ?_
  refine wp_iload1 (pc' := 255) rfl rfl ?_
  refine wp_callV3 (pc' := 258) rfl rfl rfl rfl rfl (by first | exact TK.k1 hT rfl | exact TK.kk hT rfl | exact TK.r hT rfl | assumption) rfl rfl ?_
  refine c_fewestSteps hT hb (by decide) hlo hw hc ?_
  refine Cont.v ?_
  refine wp_iret rfl rfl rfl ?_
  exact kk c hc rfl
theorem c_cell14 {d : Nat} {K : Nat → Nat × Nat} {I : Nat → Nat → Int32} {L : Nat → Nat → Int64} {R : Nat → Nat → Option Nat} {n s : Nat} {Q : Lo → Lm → Prop} {x : Int32} {H : Nat} {o : LawT} (hT : TK K R n) (hf : n + 1 ≤ lmCells) (hs : s + 6 ≤ lmSlots) (hD : DOk K R n I 1 o H) (hw : LOw o) (hH6 : H ≤ 6) (hr : I 1 14 = 0 ∨ I 1 14 = 1) (hn1 : Nrm (vw 1 I)) (hn13 : Nrm (vw 13 I)) (kkE : ¬ InR x 25 → Q (.inr n) (exM 16 (K, I, L, R, n, s))) (kk : ∀ c, c < 25 → x = nI c → ∀ J, KpD o I J → Q (.inl (some (.int (fdV 0 c o H 60 0 (cpS I 13 1))))) (K, J, L, up2 R 13 18 (R 1 18), n, s)) : Ok (d + 8) 107 [.ref 0, .int x, .int (nI 14)] (K, I, L, R, n, s) Q := by
  have hb := TK.s1 hT
  have hb13 := TK.s13 hT
  obtain ⟨-, -, hn⟩ := id hT
  refine Ok.enter (F := F_107) (ls := [.ref 0, .int x, .int (nI 14)]) rfl rfl ?_
  refine wp_iload1 (pc' := 1) rfl rfl ?_
  refine wp_callS1 (pc' := 4) rfl rfl rfl rfl rfl rfl ?_
  refine c_needCell hf hs (fun he => Cont.e rfl (kkE he)) (fun c hc hx => ?_)
  subst hx
  refine Cont.u ?_
  refine wp_iload2 (pc' := 5) rfl rfl ?_
  refine wp_sw (tg := 259) rfl rfl ?_
  refine wp_aload0 (pc' := 260) rfl rfl ?_
  refine wp_iconst (v := nI 0) (pc' := 261) rfl rfl rfl ?_
  refine wp_iload1 (pc' := 262) rfl rfl ?_
  refine wp_callV3 (pc' := 265) rfl rfl rfl rfl rfl (by first | exact TK.k1 hT rfl | exact TK.kk hT rfl | exact TK.r hT rfl | assumption) rfl rfl ?_
  refine c_firstDay (w := 0) hT (by decide) hc hD hw hH6 hr hn1 hn13 (fun J hJ => ?_)
  refine Cont.v ?_
  refine wp_iret rfl rfl rfl ?_
  exact kk c hc rfl J hJ
theorem c_cell15 {d : Nat} {K : Nat → Nat × Nat} {I : Nat → Nat → Int32} {L : Nat → Nat → Int64} {R : Nat → Nat → Option Nat} {n s : Nat} {Q : Lo → Lm → Prop} {x : Int32} {H : Nat} {o : LawT} (hT : TK K R n) (hf : n + 1 ≤ lmCells) (hs : s + 6 ≤ lmSlots) (hD : DOk K R n I 1 o H) (hw : LOw o) (hH6 : H ≤ 6) (hr : I 1 14 = 0 ∨ I 1 14 = 1) (hn1 : Nrm (vw 1 I)) (hn13 : Nrm (vw 13 I)) (kkE : ¬ InR x 25 → Q (.inr n) (exM 16 (K, I, L, R, n, s))) (kk : ∀ c, c < 25 → x = nI c → ∀ J, KpD o I J → Q (.inl (some (.int (fdV 1 c o H 60 0 (cpS I 13 1))))) (K, J, L, up2 R 13 18 (R 1 18), n, s)) : Ok (d + 8) 107 [.ref 0, .int x, .int (nI 15)] (K, I, L, R, n, s) Q := by
  have hb := TK.s1 hT
  have hb13 := TK.s13 hT
  obtain ⟨-, -, hn⟩ := id hT
  refine Ok.enter (F := F_107) (ls := [.ref 0, .int x, .int (nI 15)]) rfl rfl ?_
  refine wp_iload1 (pc' := 1) rfl rfl ?_
  refine wp_callS1 (pc' := 4) rfl rfl rfl rfl rfl rfl ?_
  refine c_needCell hf hs (fun he => Cont.e rfl (kkE he)) (fun c hc hx => ?_)
  subst hx
  refine Cont.u ?_
  refine wp_iload2 (pc' := 5) rfl rfl ?_
  refine wp_sw (tg := 266) rfl rfl ?_
  refine wp_aload0 (pc' := 267) rfl rfl ?_
  refine wp_iconst (v := nI 1) (pc' := 268) rfl rfl rfl ?_
  refine wp_iload1 (pc' := 269) rfl rfl ?_
  refine wp_callV3 (pc' := 272) rfl rfl rfl rfl rfl (by first | exact TK.k1 hT rfl | exact TK.kk hT rfl | exact TK.r hT rfl | assumption) rfl rfl ?_
  refine c_firstDay (w := 1) hT (by decide) hc hD hw hH6 hr hn1 hn13 (fun J hJ => ?_)
  refine Cont.v ?_
  refine wp_iret rfl rfl rfl ?_
  exact kk c hc rfl J hJ
theorem c_cell16 {d : Nat} {K : Nat → Nat × Nat} {I : Nat → Nat → Int32} {L : Nat → Nat → Int64} {R : Nat → Nat → Option Nat} {n s : Nat} {Q : Lo → Lm → Prop} {x : Int32} {H : Nat} {o : LawT} (hT : TK K R n) (hf : n + 1 ≤ lmCells) (hs : s + 6 ≤ lmSlots) (hH : I 1 10 = nI H) (hH6 : H ≤ 6) (kkE : ¬ InR x 25 → Q (.inr n) (exM 16 (K, I, L, R, n, s))) (kk : ∀ c, c < 25 → x = nI c → Q (.inl (some (.int (ownS (vw 1 I) c H)))) (K, I, L, R, n, s)) : Ok (d + 4) 107 [.ref 0, .int x, .int (nI 16)] (K, I, L, R, n, s) Q := by
  have hb := TK.s1 hT
  have hb13 := TK.s13 hT
  obtain ⟨-, -, hn⟩ := id hT
  refine Ok.enter (F := F_107) (ls := [.ref 0, .int x, .int (nI 16)]) rfl rfl ?_
  refine wp_iload1 (pc' := 1) rfl rfl ?_
  refine wp_callS1 (pc' := 4) rfl rfl rfl rfl rfl rfl ?_
  refine c_needCell hf hs (fun he => Cont.e rfl (kkE he)) (fun c hc hx => ?_)
  subst hx
  refine Cont.u ?_
  refine wp_iload2 (pc' := 5) rfl rfl ?_
  refine wp_sw (tg := 273) rfl rfl ?_
  refine wp_aload0 (pc' := 274) rfl rfl ?_
  refine wp_getRF (pc' := 277) rfl rfl (by first | exact TK.k1 hT rfl | exact TK.kk hT rfl | exact TK.r hT rfl | assumption) (by first | exact TK.k1 hT rfl | exact TK.kk hT rfl | exact TK.r hT rfl | assumption) rfl ?_
  refine wp_iload1 (pc' := 278) rfl rfl ?_
  refine wp_callV2 (pc' := 281) rfl rfl rfl rfl rfl (by first | exact TK.k1 hT rfl | exact TK.kk hT rfl | exact TK.r hT rfl | assumption) rfl rfl ?_
  refine c_owners hb hH hH6 ?_
  refine Cont.v ?_
  refine wp_iret rfl rfl rfl ?_
  exact kk c hc rfl
theorem c_cellX {d : Nat} {K : Nat → Nat × Nat} {I : Nat → Nat → Int32} {L : Nat → Nat → Int64} {R : Nat → Nat → Option Nat} {n s : Nat} {Q : Lo → Lm → Prop} {x y : Int32} (hT : TK K R n) (hf : n + 1 ≤ lmCells) (hs : s + 6 ≤ lmSlots) (hy : ¬ InR y 17) (kkE : ¬ InR x 25 → Q (.inr n) (exM 16 (K, I, L, R, n, s))) (kkN : ∀ c, c < 25 → x = nI c → Q (.inr n) (exM 17 (K, I, L, R, n, s))) : Ok (d + 2) 107 [.ref 0, .int x, .int y] (K, I, L, R, n, s) Q := by
  have hb := TK.s1 hT
  have hb13 := TK.s13 hT
  obtain ⟨-, -, hn⟩ := id hT
  refine Ok.enter (F := F_107) (ls := [.ref 0, .int x, .int y]) rfl rfl ?_
  refine wp_iload1 (pc' := 1) rfl rfl ?_
  refine wp_callS1 (pc' := 4) rfl rfl rfl rfl rfl rfl ?_
  refine c_needCell hf hs (fun he => Cont.e rfl (kkE he)) (fun c hc hx => ?_)
  subst hx
  refine Cont.u ?_
  refine wp_iload2 (pc' := 5) rfl rfl ?_
  refine wp_sw (tg := 282) rfl (sw_def (lo := 0) (fun k hk e => hy ⟨k, hk, by rw [e, Nat.zero_add]⟩)) ?_
  refine wp_raise (pc := 282) rfl rfl rfl rfl rfl rfl rfl rfl rfl (by decide) (by decide) (by omega) (by omega) rfl ?_
  exact kkN c hc rfl
theorem c_cart {d : Nat} {K : Nat → Nat × Nat} {I : Nat → Nat → Int32} {L : Nat → Nat → Int64} {R : Nat → Nat → Option Nat} {n s : Nat} {Q : Lo → Lm → Prop} {x z : Int32} {H q : Nat} {o : LawT} {p : Nat → Nat} {A : Nat} {Ss : Nat → Mem} (hT : TK K R n) (hf : n + 1 ≤ lmCells) (hs : s + 6 ≤ lmSlots) (hP : PastI I R p A Ss) (hr : I 1 14 = 0 ∨ I 1 14 = 1) (hn1 : Nrm (vw 1 I)) (hH : I 1 10 = nI H) (hH6 : H ≤ 6) (hlo : LO K R n I 1 o) (hw : LOw o) (hq : I 11 1 = nI q) (hq60 : q < 60) (kkE : ¬ (InR x H ∧ InR z 25) → Q (.inr n) (exM 16 (K, I, L, R, n, s))) (kkS : ∀ h c, h < H → c < 25 → x = nI h → z = nI c → ¬ cart1 (vw 1 I) h c → Q (.inr n) (exM 18 (K, I, L, R, n, s))) (kkW : ∀ h c, h < H → c < 25 → x = nI h → z = nI c → cart1 (vw 1 I) h c → nI 4 * I 7 h < rankM I 1 o 47 c / nI 32 → Q (.inr n) (exM 18 (K, rankM I 1 o, L, R, n, s))) (kk : ∀ h c, h < H → c < 25 → x = nI h → z = nI c → cart1 (vw 1 I) h c → ¬ nI 4 * I 7 h < rankM I 1 o 47 c / nI 32 → ∀ J R2 p2, TK K R2 n → Kp (rankM I 1 o) J R R2 → PastI J R2 p2 (pA A) (pS A Ss (vw 1 (rankM I 1 o))) → Q (.inl (some (.int (cartM J 1 h c q 9 h)))) (K, cartM J 1 h c q, L, R2, n, s)) : Ok (d + 7) 132 [.ref 0, .int x, .int z] (K, I, L, R, n, s) Q := by
  have hb := TK.s1 hT
  have hb13 := TK.s13 hT
  obtain ⟨-, -, hn⟩ := id hT
  refine Ok.enter (F := F_132) (ls := [.ref 0, .int x, .int z]) rfl rfl ?_
  refine wp_aload0 (pc' := 1) rfl rfl ?_
  refine wp_iload1 (pc' := 2) rfl rfl ?_
  refine wp_callV2 (pc' := 5) rfl rfl rfl rfl rfl (by first | exact TK.k1 hT rfl | exact TK.kk hT rfl | exact TK.r hT rfl | assumption) rfl rfl ?_
  refine c_needHearth hT hH hH6 hf hs (fun he => Cont.e rfl (kkE (fun h => he h.1))) (fun h hh hx => ?_)
  subst hx
  refine Cont.u ?_
  refine wp_iload2 (pc' := 6) rfl rfl ?_
  refine wp_callS1 (pc' := 9) rfl rfl rfl rfl rfl rfl ?_
  refine c_needCell hf hs (fun he => Cont.e rfl (kkE (fun h => he h.2))) (fun c hc hx => ?_)
  subst hx
  refine Cont.u ?_
  refine wp_aload0 (pc' := 10) rfl rfl ?_
  refine wp_getRF (pc' := 13) rfl rfl (by first | exact TK.k1 hT rfl | exact TK.kk hT rfl | exact TK.r hT rfl | assumption) (by first | exact TK.k1 hT rfl | exact TK.kk hT rfl | exact TK.r hT rfl | assumption) rfl ?_
  refine wp_getRF (pc' := 16) rfl rfl (by first | exact TK.k1 hT rfl | exact TK.kk hT rfl | exact TK.r hT rfl | assumption) (by first | exact TK.k1 hT rfl | exact TK.kk hT rfl | exact TK.r hT rfl | assumption) rfl ?_
  refine wp_iload2 (pc' := 17) rfl rfl ?_
  refine wp_iald _ (pc' := 18) rfl (by first | exact TK.k1 hT rfl | exact TK.kk hT rfl | exact TK.r hT rfl | assumption) (by with_reducible rfl) (by omega) (by first | decide | assumption | omega) rfl ?_
  first | refine wp_ifeqB (pc' := 21) rfl rfl ?_ ?_ | refine wp_ifeq (pc' := 21) rfl rfl ?_ ?_
  · intro h18
    refine wp_raise (pc := 73) rfl rfl rfl rfl rfl rfl rfl rfl rfl (by decide) (by decide) (by omega) (by omega) rfl ?_
    first | exact kkW h c hh hc rfl rfl ⟨h18, h32, h44⟩ h70 | exact kkS h c hh hc rfl rfl (fun q => q.1 h18) | exact kkS h c hh hc rfl rfl (fun q => q.2.1 h32) | exact kkS h c hh hc rfl rfl (fun q => h44 q.2.2)
  · intro h18
    refine wp_aload0 (pc' := 22) rfl rfl ?_
    refine wp_getRF (pc' := 25) rfl rfl (by first | exact TK.k1 hT rfl | exact TK.kk hT rfl | exact TK.r hT rfl | assumption) (by first | exact TK.k1 hT rfl | exact TK.kk hT rfl | exact TK.r hT rfl | assumption) rfl ?_
    refine wp_getRF (pc' := 28) rfl rfl (by first | exact TK.k1 hT rfl | exact TK.kk hT rfl | exact TK.r hT rfl | assumption) (by first | exact TK.k1 hT rfl | exact TK.kk hT rfl | exact TK.r hT rfl | assumption) rfl ?_
    refine wp_iload2 (pc' := 29) rfl rfl ?_
    refine wp_iald _ (pc' := 30) rfl (by first | exact TK.k1 hT rfl | exact TK.kk hT rfl | exact TK.r hT rfl | assumption) (by with_reducible rfl) (by omega) (by first | decide | assumption | omega) rfl ?_
    refine wp_bipush (v := nI 60) (pc' := 32) rfl rfl rfl ?_
    refine wp_icmplt (pc' := 35) rfl rfl ?_ ?_
    · intro h32
      refine wp_raise (pc := 73) rfl rfl rfl rfl rfl rfl rfl rfl rfl (by decide) (by decide) (by omega) (by omega) rfl ?_
      first | exact kkW h c hh hc rfl rfl ⟨h18, h32, h44⟩ h70 | exact kkS h c hh hc rfl rfl (fun q => q.1 h18) | exact kkS h c hh hc rfl rfl (fun q => q.2.1 h32) | exact kkS h c hh hc rfl rfl (fun q => h44 q.2.2)
    · intro h32
      refine wp_aload0 (pc' := 36) rfl rfl ?_
      refine wp_getRF (pc' := 39) rfl rfl (by first | exact TK.k1 hT rfl | exact TK.kk hT rfl | exact TK.r hT rfl | assumption) (by first | exact TK.k1 hT rfl | exact TK.kk hT rfl | exact TK.r hT rfl | assumption) rfl ?_
      refine wp_iload1 (pc' := 40) rfl rfl ?_
      refine wp_iload2 (pc' := 41) rfl rfl ?_
      refine wp_callV3 (pc' := 44) rfl rfl rfl rfl rfl (by first | exact TK.k1 hT rfl | exact TK.kk hT rfl | exact TK.r hT rfl | assumption) rfl rfl ?_
      refine c_hasRight hb (by omega) ?_
      refine Cont.v ?_
      first | refine wp_ifeqB (pc' := 47) rfl rfl ?_ ?_ | refine wp_ifeq (pc' := 47) rfl rfl ?_ ?_
      · intro h44
        refine wp_raise (pc := 73) rfl rfl rfl rfl rfl rfl rfl rfl rfl (by decide) (by decide) (by omega) (by omega) rfl ?_
        first | exact kkW h c hh hc rfl rfl ⟨h18, h32, h44⟩ h70 | exact kkS h c hh hc rfl rfl (fun q => q.1 h18) | exact kkS h c hh hc rfl rfl (fun q => q.2.1 h32) | exact kkS h c hh hc rfl rfl (fun q => h44 q.2.2)
      · intro h44
        have hM1 : ∀ a, a < 13 → rankM I 1 o a = I a := fun a ha => rank_out hw (by omega) (by omega) (by omega)
        refine wp_aload0 (pc' := 48) rfl rfl ?_
        refine wp_getRF (pc' := 51) rfl rfl (by first | exact TK.k1 hT rfl | exact TK.kk hT rfl | exact TK.r hT rfl | assumption) (by first | exact TK.k1 hT rfl | exact TK.kk hT rfl | exact TK.r hT rfl | assumption) rfl ?_
        refine wp_aload0 (pc' := 52) rfl rfl ?_
        refine wp_getRF (pc' := 55) rfl rfl (by first | exact TK.k1 hT rfl | exact TK.kk hT rfl | exact TK.r hT rfl | assumption) (by first | exact TK.k1 hT rfl | exact TK.kk hT rfl | exact TK.r hT rfl | assumption) rfl ?_
        refine wp_iload2 (pc' := 56) rfl rfl ?_
        refine wp_callV3 (pc' := 59) rfl rfl rfl rfl rfl (by first | exact TK.k1 hT rfl | exact TK.kk hT rfl | exact TK.r hT rfl | assumption) rfl rfl ?_
        refine c_leastSinks hT hb (by decide) hlo hw hc ?_
        refine Cont.v ?_
        refine wp_iconst (v := nI 4) (pc' := 60) rfl rfl rfl ?_
        refine wp_aload0 (pc' := 61) rfl rfl ?_
        refine wp_getRF (pc' := 64) rfl rfl (by first | exact TK.k1 hT rfl | exact TK.kk hT rfl | exact TK.r hT rfl | assumption) (by first | exact TK.k1 hT rfl | exact TK.kk hT rfl | exact TK.r hT rfl | assumption) rfl ?_
        refine wp_getRF (pc' := 67) rfl rfl (by first | exact TK.k1 hT rfl | exact TK.kk hT rfl | exact TK.r hT rfl | assumption) (by first | exact TK.k1 hT rfl | exact TK.kk hT rfl | exact TK.r hT rfl | assumption) rfl ?_
        refine wp_iload1 (pc' := 68) rfl rfl ?_
        refine wp_iald _ (pc' := 69) rfl (by first | exact TK.k1 hT rfl | exact TK.kk hT rfl | exact TK.r hT rfl | assumption) (by with_reducible rfl) (by omega) (by first | decide | assumption | omega) rfl ?_
        rw [hM1 7 (by decide)]
        first | refine wp_imulN (pc' := 70) rfl (by with_reducible rfl) (by with_reducible rfl) rfl ?_ | refine wp_imul (pc' := 70) rfl rfl ?_
        refine wp_icmple (pc' := 73) rfl rfl ?_ ?_
        · intro h70
          refine wp_aload0 (pc' := 85) rfl rfl ?_
          refine wp_callV1 (pc' := 88) rfl rfl rfl rfl rfl (by first | exact TK.k1 hT rfl | exact TK.kk hT rfl | exact TK.r hT rfl | assumption) rfl rfl ?_
          refine c_remember (I := rankM I 1 o) hT (PastI_off hP (fun a ha => rank_out hw (by omega) (by omega) (by omega))) (by rw [hM1 1 (by decide)]; exact hr) (Nrm_eq hn1 (fun k hk => hM1 (1 + k) (by omega))) (fun J R2 p2 hT hkp hP2 => ?_)
          have hb := TK.s1 hT
          have hq2 : J (1 + 10) 1 = nI q := by rw [hkp.1 11 (by decide) (by decide), hM1 11 (by decide)]; exact hq
          refine Cont.u ?_
          refine wp_aload0 (pc' := 89) rfl rfl ?_
          refine wp_getRF (pc' := 92) rfl rfl (by first | exact TK.k1 hT rfl | exact TK.kk hT rfl | exact TK.r hT rfl | assumption) (by first | exact TK.k1 hT rfl | exact TK.kk hT rfl | exact TK.r hT rfl | assumption) rfl ?_
          refine wp_iload1 (pc' := 93) rfl rfl ?_
          refine wp_iload2 (pc' := 94) rfl rfl ?_
          refine wp_callV3 (pc' := 97) rfl rfl rfl rfl rfl (by first | exact TK.k1 hT rfl | exact TK.kk hT rfl | exact TK.r hT rfl | assumption) rfl rfl ?_
          refine c_cartHome hb (by omega) hc hq2 hq60 ?_
          refine Cont.u ?_
          refine wp_aload0 (pc' := 98) rfl rfl ?_
          refine wp_getRF (pc' := 101) rfl rfl (by first | exact TK.k1 hT rfl | exact TK.kk hT rfl | exact TK.r hT rfl | assumption) (by first | exact TK.k1 hT rfl | exact TK.kk hT rfl | exact TK.r hT rfl | assumption) rfl ?_
          refine wp_getRF (pc' := 104) rfl rfl (by first | exact TK.k1 hT rfl | exact TK.kk hT rfl | exact TK.r hT rfl | assumption) (by first | exact TK.k1 hT rfl | exact TK.kk hT rfl | exact TK.r hT rfl | assumption) rfl ?_
          refine wp_iload1 (pc' := 105) rfl rfl ?_
          refine wp_iald _ (pc' := 106) rfl (by first | exact TK.k1 hT rfl | exact TK.kk hT rfl | exact TK.r hT rfl | assumption) (by with_reducible rfl) (by omega) (by first | decide | assumption | omega) rfl ?_
          refine wp_iret rfl rfl rfl ?_
          exact kk h c hh hc rfl rfl ⟨h18, h32, h44⟩ h70 J R2 p2 hT hkp hP2
        · intro h70
          refine wp_raise (pc := 73) rfl rfl rfl rfl rfl rfl rfl rfl rfl (by decide) (by decide) (by omega) (by omega) rfl ?_
          first | exact kkW h c hh hc rfl rfl ⟨h18, h32, h44⟩ h70 | exact kkS h c hh hc rfl rfl (fun q => q.1 h18) | exact kkS h c hh hc rfl rfl (fun q => q.2.1 h32) | exact kkS h c hh hc rfl rfl (fun q => h44 q.2.2)
