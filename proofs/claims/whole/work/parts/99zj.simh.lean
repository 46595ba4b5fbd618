/-! THE RELATION of the whole: answers by pairs; acts -/
def SimT (N : Nat) (xs : Nat → Int32) (t : Lm) : Prop := Sim N xs (lmK t) (lmI t) (lmL t) (lmR t) (lmN t)
/-- after the reference's answer -/
def AftR (N : Nat) (xs : Nat → Int32) (n s k : Nat) (z : Bool) (o : Lo) (t : Lm) : Prop := ∃ b, o = .inl (some (.int b)) ∧ lmI t 318 0 = nI k ∧ (k = 0 → lmL t 337 0 = bif z then (if b = nI 0 then 0 else 1) else b.toInt64) ∧ SimT N xs t ∧ lmN t ≤ n + 6 ∧ lmS t ≤ s + 876
/-- what the law reads between two answers -/
def MidR (N : Nat) (xs : Nat → Int32) (K : Nat → Nat × Nat) (I : Mem) : Prop := K lmScr = (50, N) ∧ (∀ j, I lmScr j = xs j) ∧ (K 318).1 = 12
theorem mid_of {N : Nat} {xs : Nat → Int32} {K : Nat → Nat × Nat} {I J : Mem} {L : Nat → Nat → Int64} {R : Nat → Nat → Option Nat} {n : Nat} (h : BasR N xs K I L R n) (e : J lmScr = I lmScr) : MidR N xs K J := ⟨h.2.2.2.1, fun j => by rw [e]; exact h.2.2.2.2.1.1 j, TK.k1 h.1 rfl⟩
theorem midT {N : Nat} {xs : Nat → Int32} {K : Nat → Nat × Nat} {I J : Mem} {L L2 : Nat → Nat → Int64} {R R2 : Nat → Nat → Option Nat} {n n2 s2 : Nat} (h : BasR N xs K I L R n) (e : J lmScr = I lmScr) : MidR N xs (lmK (K, J, L2, R2, n2, s2)) (lmI (K, J, L2, R2, n2, s2)) := mid_of h e
theorem mid0 {N : Nat} {xs : Nat → Int32} {K : Nat → Nat × Nat} {I : Mem} {L : Nat → Nat → Int64} {R : Nat → Nat → Option Nat} {n : Nat} (h : BasR N xs K I L R n) : MidR N xs K I := mid_of h rfl
theorem mide_of {N : Nat} {xs : Nat → Int32} {K : Nat → Nat × Nat} {I J : Mem} {L : Nat → Nat → Int64} {R : Nat → Nat → Option Nat} {n : Nat} (h : BasR N xs K I L R n) (e : J lmScr = I lmScr) : MidR N xs K J ∧ 338 ≤ n ∧ n ≤ lmCells := ⟨mid_of h e, h.1.2.2, h.2.2.2.2.2⟩
theorem mide {N : Nat} {xs : Nat → Int32} {K : Nat → Nat × Nat} {I : Mem} {L : Nat → Nat → Int64} {R : Nat → Nat → Option Nat} {n : Nat} (h : BasR N xs K I L R n) : MidR N xs K I ∧ 338 ≤ n ∧ n ≤ lmCells := mide_of h rfl
theorem mid_ex {N : Nat} {xs : Nat → Int32} {K : Nat → Nat × Nat} {I : Mem} {n ci : Nat} (h : MidR N xs K I ∧ 338 ≤ n ∧ n ≤ lmCells) : MidR N xs (up1 (up1 K n (ci, 0)) n (ci, 1)) (upr I n (fun _ => 0)) := by
  obtain ⟨⟨h1, h2, h3⟩, h4, h5⟩ := h
  have hb : lmCells < lmB := by decide
  have hs : lmB ≤ lmScr := Nat.le_add_right _ _
  refine ⟨by rw [up1_ne (by omega), up1_ne (by omega)]; exact h1, fun j => by rw [upr_ne (by omega)]; exact h2 j, by rw [up1_ne (by omega), up1_ne (by omega)]; exact h3⟩
/-- after the wrapper's answer -/
def AftC (N : Nat) (xs : Nat → Int32) (D m : Nat) (args : List Value) (n s : Nat) (z : Bool) (o : Lo) (t : Lm) : Prop := ∃ k, k < 4 ∧ o = .inl (some (.int (nI k))) ∧ Ok D m args t (AftR N xs n s k z) ∧ MidR N xs (lmK t) (lmI t)
/-- both answer, no wrapper between -/
def DirR (N : Nat) (xs : Nat → Int32) (n s : Nat) (v : Int32) (o : Lo) (t : Lm) : Prop := o = .inl (some (.int v)) ∧ SimT N xs t ∧ lmN t ≤ n + 6 ∧ lmS t ≤ s + 876
def DirC (N : Nat) (xs : Nat → Int32) (D m : Nat) (args : List Value) (n s : Nat) (o : Lo) (t : Lm) : Prop := ∃ v, o = .inl (some (.int v)) ∧ Ok D m args t (DirR N xs n s v) ∧ MidR N xs (lmK t) (lmI t)
theorem wrE1 {Q : Lo → Lm → Prop} {a c : Nat} {t : Lm} {r : List Nat} (h : (lmK t a).1 = c) (q : Q (.inl (some (.int (nI 1)))) t) : WrE Q a t (c :: r) 1 := Or.inl ⟨h, q⟩
theorem wrE2 {Q : Lo → Lm → Prop} {a c c1 : Nat} {t : Lm} {r : List Nat} (h : (lmK t a).1 = c) (q : Q (.inl (some (.int (nI 2)))) t) : WrE Q a t (c1 :: c :: r) 1 := Or.inr (Or.inl ⟨h, q⟩)
theorem wrE3 {Q : Lo → Lm → Prop} {a c c1 c2 : Nat} {t : Lm} {r : List Nat} (h : (lmK t a).1 = c) (q : Q (.inl (some (.int (nI 3)))) t) : WrE Q a t (c1 :: c2 :: c :: r) 1 := Or.inr (Or.inr (Or.inl ⟨h, q⟩))
theorem exK {K : Nat → Nat × Nat} {I : Mem} {L : Nat → Nat → Int64} {R : Nat → Nat → Option Nat} {n s ci : Nat} : (lmK (exM ci (K, I, L, R, n, s)) n).1 = ci := by
  show (up1 (up1 K n (ci, 0)) n (ci, 1) n).1 = ci
  rw [up1_hit]
theorem tk_ex {K : Nat → Nat × Nat} {R : Nat → Nat → Option Nat} {n ci : Nat} (h : TK K R n) (hl : n ≤ lmCells) : TK (up1 (up1 K n (ci, 0)) n (ci, 1)) (upr R n (fun _ => none)) (n + 1) :=
  tk_fr (I := fun _ _ => 0) (L := fun _ _ => 0) h (fr_ex h.2.2 hl) (by omega)
theorem tap_ag {I J : Mem} (h : TapR I) (h7 : J 0 7 = I 0 7) (h9 : J 318 9 = I 318 9) (h38 : J 38 = I 38) (h324 : J 324 = I 324) : TapR J := by
  obtain ⟨T, tv, t1, t2, t3, t4, t5, t6⟩ := h
  exact ⟨T, tv, h7.trans t1, h9.trans t2, t3, fun j hj => by rw [h38]; exact t4 j hj, t5, by rw [h324]; exact t6⟩
theorem nrm_ag {I J : Mem} {b : Nat} (h : Nrm (vw b I)) (e : ∀ a, b ≤ a → a < b + 12 → J a = I a) : Nrm (vw b J) := Nrm_eq h (fun k hk => e _ (by omega) (by omega))
/-- what counts for the reference's side: rows 0..317, 319.., the object's fields -/
theorem sim_up {N : Nat} {xs : Nat → Int32} {K : Nat → Nat × Nat} {I J : Mem} {L L2 : Nat → Nat → Int64} {R : Nat → Nat → Option Nat} {n : Nat} (h : Sim N xs K I L R n) (e : ∀ a, (a < 318 ∨ a = 319 ∨ a = 320 ∨ a = 323 ∨ a = 324 ∨ 337 ≤ a) → J a = I a) (e3 : ∀ j, (j = 6 ∨ j = 7 ∨ j = 9 ∨ j = 14) → J 318 j = I 318 j) (hL : ∀ a, lmB ≤ a → L2 a = L a) : Sim N xs K J L2 R n := by
  have hB := h.1
  have h1 : Fr K I L R n K J L2 R := ⟨fun _ _ => rfl, fun a q _ _ => e a (by unfold Imp at q; omega), ⟨by rw [e 0 (by decide)], by rw [e 0 (by decide)], e3 6 (by decide), e3 7 (by decide), by rw [e 44 (by decide)]⟩, hL, fun _ _ _ _ => rfl⟩
  obtain ⟨-, -, -, hT, -, h8, h13, -⟩ := id h
  exact sim_fr h h1 (Nat.le_refl _) hB.2.2.2.2.2 (tap_ag hT (by rw [e 0 (by decide)]) (e3 9 (by decide)) (e 38 (by decide)) (e 324 (by decide))) (by rw [e 0 (by decide), e3 14 (by decide)]; exact h8) (nrm_ag h13 (fun a q1 q2 => e a (by omega)))
theorem up_lmB {L : Nat → Nat → Int64} {v : Int64} : ∀ a, lmB ≤ a → up2 L 337 0 v a = L a := fun a ha => up2_row (by have : 337 < lmB := by decide
                                                                                                                     omega)
theorem sim_ask {N : Nat} {xs : Nat → Int32} {K : Nat → Nat × Nat} {I : Mem} {L : Nat → Nat → Int64} {R : Nat → Nat → Option Nat} {n : Nat} {k : Int32} {v : Int64} (h : Sim N xs K I L R n) : Sim N xs K (up2 I 318 0 k) (up2 L 337 0 v) R n :=
  sim_up h (fun a ha => up2_row (by omega)) (fun j hj => by rw [up2_same, if_neg (by omega)]) up_lmB
theorem sim_d {N : Nat} {xs : Nat → Int32} {K : Nat → Nat × Nat} {I : Mem} {L : Nat → Nat → Int64} {R : Nat → Nat → Option Nat} {n : Nat} {k : Int32} (h : Sim N xs K I L R n) : Sim N xs K (up2 I 318 0 k) L R n :=
  sim_up h (fun a ha => up2_row (by omega)) (fun j hj => by rw [up2_same, if_neg (by omega)]) (fun _ _ => rfl)
theorem sim_askJ {N : Nat} {xs : Nat → Int32} {K : Nat → Nat × Nat} {I J : Mem} {L : Nat → Nat → Int64} {R : Nat → Nat → Option Nat} {n : Nat} {v : Int64} (h : Sim N xs K I L R n) (e : AskJ I J) : Sim N xs K J (up2 L 337 0 v) R n :=
  sim_up h (fun a ha => by
    by_cases q : a = 319
    · subst q; exact e.2.2.2
    · exact e.1 a (by omega)) (fun j hj => e.2.1 j (by omega)) up_lmB
theorem sim_dJ {N : Nat} {xs : Nat → Int32} {K : Nat → Nat × Nat} {I J : Mem} {L : Nat → Nat → Int64} {R : Nat → Nat → Option Nat} {n : Nat} (h : Sim N xs K I L R n) (e : AskJ I J) : Sim N xs K J L R n :=
  sim_up h (fun a ha => by
    by_cases q : a = 319
    · subst q; exact e.2.2.2
    · exact e.1 a (by omega)) (fun j hj => e.2.1 j (by omega)) (fun _ _ => rfl)
theorem sim_ex {N : Nat} {xs : Nat → Int32} {K : Nat → Nat × Nat} {I : Mem} {L : Nat → Nat → Int64} {R : Nat → Nat → Option Nat} {n ci : Nat} (h : Sim N xs K I L R n) (hn : n + 1 ≤ lmCells) : Sim N xs (up1 (up1 K n (ci, 0)) n (ci, 1)) (upr I n (fun _ => 0)) (upr L n (fun _ => 0)) (upr R n (fun _ => none)) (n + 1) := by
  have hB := h.1
  have h3 := hB.1.2.2
  obtain ⟨-, -, -, hT, -, h8, h13, -⟩ := id h
  exact sim_fr h (fr_ex h3 hB.2.2.2.2.2) (by omega) hn (tap_ag hT (by rw [upr_ne (by omega)]) (by rw [upr_ne (by omega)]) (upr_ne (by omega)) (upr_ne (by omega))) (by rw [upr_ne (by omega), upr_ne (by omega)]; exact h8) (nrm_ag h13 (fun a q1 q2 => upr_ne (by omega)))
/-- the class throws, and so does the reference -/
theorem aft_e {N : Nat} {xs : Nat → Int32} {K : Nat → Nat × Nat} {I : Mem} {L : Nat → Nat → Int64} {R : Nat → Nat → Option Nat} {n s ci k : Nat} {z : Bool} {v : Int32} (h : Sim N xs K I L R n) (hn : n + 6 ≤ lmCells) (hk : ¬ k = 0) : AftR N xs n s k z (.inl (some (.int v))) (up1 (up1 K n (ci, 0)) n (ci, 1), up2 (upr I n (fun _ => 0)) 318 0 (nI k), upr L n (fun _ => 0), upr R n (fun _ => none), n + 1, s + 6) :=
  ⟨v, rfl, (show up2 (upr I n (fun _ => 0)) 318 0 (nI k) 318 0 = nI k from up2_hit), fun e => absurd e hk, sim_d (sim_ex h (by omega)), by show n + 1 ≤ n + 6; omega, by show s + 6 ≤ s + 876; omega⟩
/-- both answer -/
theorem aft_v {N : Nat} {xs : Nat → Int32} {K : Nat → Nat × Nat} {I : Mem} {L : Nat → Nat → Int64} {R : Nat → Nat → Option Nat} {n s : Nat} {v : Int32} (h : Sim N xs K I L R n) : AftR N xs n s 0 false (.inl (some (.int v))) (K, up2 I 318 0 (nI 0), up2 L 337 0 v.toInt64, R, n, s) :=
  ⟨v, rfl, (show up2 I 318 0 (nI 0) 318 0 = nI 0 from up2_hit), fun _ => (show up2 L 337 0 v.toInt64 337 0 = v.toInt64 from up2_hit), sim_ask h, by show n ≤ n + 6; omega, by show s ≤ s + 876; omega⟩
theorem aft_J {N : Nat} {xs : Nat → Int32} {K : Nat → Nat × Nat} {I J : Mem} {L : Nat → Nat → Int64} {R : Nat → Nat → Option Nat} {n s : Nat} {v : Int32} (h : Sim N xs K I L R n) (e : AskJ I J) : AftR N xs n s 0 false (.inl (some (.int v))) (K, J, up2 L 337 0 v.toInt64, R, n, s) :=
  ⟨v, rfl, e.2.2.1, fun _ => (show up2 L 337 0 v.toInt64 337 0 = v.toInt64 from up2_hit), sim_askJ h e, by show n ≤ n + 6; omega, by show s ≤ s + 876; omega⟩
theorem dir_v {N : Nat} {xs : Nat → Int32} {K : Nat → Nat × Nat} {I : Mem} {L : Nat → Nat → Int64} {R : Nat → Nat → Option Nat} {n s : Nat} {v : Int32} {k : Int32} (h : Sim N xs K I L R n) : DirR N xs n s v (.inl (some (.int v))) (K, up2 I 318 0 k, L, R, n, s) :=
  ⟨rfl, sim_d h, by show n ≤ n + 6; omega, by show s ≤ s + 876; omega⟩
/-! an act -/
theorem rem_at {A i k : Nat} {w v : Nat → Int32} (hA : A ≤ 12) (hi : i < pA A) (hk : k < 483) : remR A w v (483 * i + k) = if A = 12 then (if i < 11 then v (483 * (i + 1) + k) else w k) else (if i < A then v (483 * i + k) else w k) := by
  unfold remR
  unfold pA at hi
  by_cases h : A = 12
  · rw [if_pos h] at hi ⊢
    rw [if_pos h]
    by_cases q : i < 11
    · rw [if_pos q]
      unfold cpyO cpy
      rw [if_neg (by omega), if_pos (by omega)]
      show v (483 * i + k + 483) = _
      rw [show 483 * i + k + 483 = 483 * (i + 1) + k by omega]
    · obtain rfl : i = 11 := by omega
      rw [if_neg q]
      unfold cpyO
      rw [if_pos (by omega), show 483 * 11 + k - 5313 = k by omega]
  · rw [if_neg h] at hi ⊢
    rw [if_neg h]
    unfold cpyO
    by_cases q : i < A
    · rw [if_pos q, if_neg (by omega)]
    · obtain rfl : i = A := by omega
      rw [if_neg q, if_pos (by omega), show 483 * i + k - 483 * i = k by omega]
theorem pst_ag {S : Mem} {w w2 : Nat → Int32} {g : Int32} (e : ∀ k, k < 483 → w2 k = w k) (h : PstR S w g) : PstR S w2 g := by
  obtain ⟨h1, ⟨H, h2⟩, h3⟩ := h
  exact ⟨sim_w h1 (fun j hj _ => e j hj), ⟨H, wb_ag (fun j hj _ _ => e j (by omega)) h2⟩, (e 2 (by decide)).trans h3⟩
theorem past_ag {I J : Mem} {R : Nat → Nat → Option Nat} {p : Nat → Nat} {A : Nat} {Ss : Nat → Mem} (h : PastI I R p A Ss) (e : ∀ a, 174 ≤ a → a < 318 → J a = I a) (e5 : J 0 5 = I 0 5) : PastI J R p A Ss := by
  obtain ⟨p1, p2, p3, p4, p5⟩ := h
  refine ⟨fun i hi => ?_, p2, p3, e5.trans p4, fun i hi => ?_⟩
  · obtain ⟨q1, q2, q3⟩ := p1 i hi
    exact ⟨q1, q2, Nrm_eq q3 (fun k hk => e _ (by omega) (by omega))⟩
  · obtain ⟨q1, q2⟩ := p5 i hi
    obtain ⟨-, r2, -⟩ := p1 i (by omega)
    exact ⟨fun k hk => (e _ (by omega) (by omega)).trans (q1 k hk), q2⟩
theorem min_pA {A : Nat} (h : A ≤ 12) : min (A + 1) 12 = pA A := by unfold pA; split <;> omega
/-- what an act needs of both, and leaves -/
theorem sim_act {N : Nat} {xs : Nat → Int32} {K : Nat → Nat × Nat} {I J J2 J3 : Mem} {L L2 : Nat → Nat → Int64} {R R2 : Nat → Nat → Option Nat} {n : Nat} {o : LawT} {ro : RwT} {H H2 A : Nat} {p2 : Nat → Nat} {Ss : Nat → Mem} {w : Nat → Int32}
    (h : Sim N xs K I L R n) (hS : StR K R n I 1 o (I 319) ro H) (hA : A ≤ 12) (hPs : ∀ i, i < A → PstR (Ss i) (fun k => I 323 (483 * i + k)) (I 319 2))
    (hT2 : TK K R2 n) (k : Kp I J R R2) (hP2 : PastI J R2 p2 (pA A) (pS A Ss (vw 1 I)))
    (e2 : ∀ a, (a < 1 ∨ 13 ≤ a) → offR (R 1 18) a → J2 a = J a) (a3 : ActJ A J2 J3 w)
    (hs : SimS (vw 1 J2) w) (hw : WB w H2) (hi : ∀ j, 483 ≤ j → w j = I 319 j) (h2 : w 2 = I 319 2) (hL : ∀ a, lmB ≤ a → L2 a = L a) : Sim N xs K J3 L2 R2 n := by
  obtain ⟨⟨hT, hTS, hSS, hsc, hxs, hnl⟩, -, hK, hTp, -, h8, h13, h25⟩ := h
  obtain ⟨a1, a4, a5, a6, a7, a8⟩ := a3
  obtain ⟨k1, k2, k3⟩ := k
  have hb : lmCells < lmB := by decide
  have h338 := hT.2.2
  have hla : ∀ la, R 1 18 = some la → 338 ≤ la ∧ la + 6 ≤ n := fun la q => lo_la hS.2.2.1 hS.2.2.2.1 q
  have off : ∀ a, (a < 338 ∨ lmB ≤ a) → offR (R 1 18) a := fun a ha la q => by have := hla la q; omega
  have eJ : ∀ a, a ≠ 0 → (13 ≤ a ∧ a < 174 ∨ 318 ≤ a) → offR (R 1 18) a → J2 a = I a := fun a q0 q1 q2 => (e2 a (by omega) q2).trans (k1 a q0 (by omega))
  have e3 : ∀ a, a ≠ 0 → (13 ≤ a ∧ a < 174 ∨ 320 ≤ a ∧ a < 323 ∨ a = 324 ∨ 337 ≤ a) → offR (R 1 18) a → J3 a = I a := fun a q0 q1 q2 => (a1 a (by omega)).trans (eJ a q0 (by omega) q2)
  have e0 : ∀ j, j ≠ 5 → J3 0 j = I 0 j := fun j hj => by rw [a1 0 (by omega), e2 0 (by omega) (off 0 (by decide))]; exact k2 j hj
  have e318 : ∀ j, j ≠ 7 → j ≠ 0 → J3 318 j = I 318 j := fun j q1 q2 => by rw [a4 j q1 q2, eJ 318 (by decide) (by decide) (off _ (by decide))]
  have e319 : J2 319 = I 319 := eJ 319 (by decide) (by decide) (off _ (by decide))
  have e323 : J2 323 = I 323 := eJ 323 (by decide) (by decide) (off _ (by decide))
  have eR : ∀ a, a ≠ 37 → (a < 174 ∨ 318 ≤ a) → R2 a = R a := k3
  have hR1 : R2 1 18 = R 1 18 := by rw [eR 1 (by decide) (by decide)]
  have hIl : ∀ a, 338 ≤ a → a < n → offR (R 1 18) a → J3 a = I a := fun a q1 q2 q3 => e3 a (by omega) (by omega) q3
  have hRl : ∀ a, 338 ≤ a → a < n → R2 a = R a := fun a q1 q2 => eR a (by omega) (by omega)
  refine ⟨⟨hT2, ⟨hTS.1, fun q j hq => ?_⟩, fun i hi2 => ?_, hsc, ⟨fun j => ?_, by rw [e3 44 (by decide) (by decide) (off _ (by decide))]; exact hxs.2⟩, hnl⟩, ⟨o, ro, H2, ?_⟩, ?_, ?_, ⟨p2, pA A, pS A Ss (vw 1 I), ?_, ?_, fun i hi2 => ?_⟩, ?_, ?_, ?_⟩
  · rw [hL _ (by omega)]; exact hTS.2 q j hq
  · obtain ⟨s1, s2, s3, s4, s5⟩ := hSS i hi2
    refine ⟨s1, s2, ?_, fun j => ?_, fun j => ?_⟩
    · rw [eR _ (by omega) (by omega)]; exact s3
    · rw [e3 _ (by omega) (by omega) (off _ (by omega))]; exact s4 j
    · rw [e3 _ (by omega) (by omega) (off _ (by omega))]; exact s5 j
  · rw [e3 lmScr (by unfold lmScr; omega) (by unfold lmScr; omega) (off _ (by unfold lmScr; omega))]; exact hxs.1 j
  · obtain ⟨s1, s2, s3, s4, s5, s6, s7⟩ := hS
    refine ⟨?_, by rw [a8]; exact hw, LO_fr s3 s4 (laD_me s3) (Nat.le_refl _) (fun _ _ => rfl) hR1 hRl hIl, s4, ?_, ?_, ?_⟩
    · rw [a8]
      exact sim_vw hs (fun q hq => a1 _ (by omega))
    · rw [a8]; exact lawOO_ag hi (lawOO_fr s3 s4 (laD_me s3) hIl s5)
    · rw [a8]; exact RO_ag h2 hi s6
    · rw [a8]; exact amb_ag hi s7
  · rcases hK with ⟨q1, q2⟩ | ⟨q1, q2, ok, rk, Hk, q3, q4⟩
    · exact Or.inl ⟨(e0 3 (by decide)).trans q1, (e318 6 (by decide) (by decide)).trans q2⟩
    · refine Or.inr ⟨(e0 3 (by decide)).trans q1, (e318 6 (by decide) (by decide)).trans q2, ok, rk, Hk, ?_, ?_⟩
      · rw [e3 320 (by decide) (by decide) (off _ (by decide))]
        exact st_fr q3 q4 (Nat.le_refl _) (fun _ _ => rfl) (by rw [eR 25 (by decide) (by decide)]) hRl hIl (fun q hq => e3 _ (by omega) (by omega) (off _ (by omega)))
      · rw [hR1]; exact q4
  · exact tap_ag hTp (e0 7 (by decide)) (e318 9 (by decide) (by decide)) (e3 38 (by decide) (by decide) (off _ (by decide))) (e3 324 (by decide) (by decide) (off _ (by decide)))
  · exact past_ag hP2 (fun a q1 q2 => (a1 a (by omega)).trans (e2 a (by omega) (off a (by omega)))) (by rw [a1 0 (by omega), e2 0 (by omega) (off 0 (by decide))])
  · rw [a6, min_pA hA]
  · rw [a7, e319, e323, a8]
    have hg : ∀ q, q < 483 → remR A (I 319) (I 323) (483 * i + q) = if A = 12 then (if i < 11 then I 323 (483 * (i + 1) + q) else I 319 q) else (if i < A then I 323 (483 * i + q) else I 319 q) := fun q hq => rem_at hA hi2 hq
    have hme : PstR (vw 1 I) (I 319) (I 319 2) := ⟨hS.1, ⟨H, hS.2.1⟩, rfl⟩
    rw [h2]
    unfold pS
    unfold pA at hi2
    by_cases q12 : A = 12
    · rw [if_pos q12] at hi2
      simp only [if_pos q12] at hg ⊢
      by_cases q : i < 11
      · simp only [if_pos q] at hg ⊢
        exact pst_ag hg (hPs (i + 1) (by omega))
      · simp only [if_neg q] at hg ⊢
        exact pst_ag hg hme
    · rw [if_neg q12] at hi2
      simp only [if_neg q12] at hg ⊢
      by_cases q : i < A
      · simp only [if_pos q] at hg ⊢
        exact pst_ag hg (hPs i q)
      · simp only [if_neg q] at hg ⊢
        exact pst_ag hg hme
  · rw [e0 8 (by decide), e318 14 (by decide) (by decide)]; exact h8
  · exact nrm_ag h13 (fun a q1 q2 => e3 a (by omega) (by omega) (off a (by omega)))
  · exact nrm_ag h25 (fun a q1 q2 => e3 a (by omega) (by omega) (off a (by omega)))
