/-! THE OBJECT'S METHODS: days, going back, the log, choices, odds -/
theorem InR_sw {x : Int32} {k : Nat} (h : ∀ j, j < k → ¬ x = nI j) : ¬ InR x k := fun ⟨c, hc, e⟩ => h c hc e
theorem days_of {x : Int32} (h1 : ¬ x < nI 1) (h2 : ¬ nI 60 < x) : ∃ k, 1 ≤ k ∧ k ≤ 60 ∧ x = nI k := by
  have h0 : ¬ x < nI 0 := fun q => h1 (Int32.lt_trans q (by decide))
  obtain ⟨k, hk, rfl⟩ := InR_le (k := 60) (by decide) h0 h2
  refine ⟨k, ?_, by omega, rfl⟩
  by_cases e : k = 0
  · subst e; exact absurd (by decide) h1
  · omega
theorem days0_of {x : Int32} {m : Nat} (hm : m < 2 ^ 30) (h1 : ¬ x < nI 0) (h2 : ¬ nI m < x) : ∃ k, k ≤ m ∧ x = nI k := by
  obtain ⟨k, hk, rfl⟩ := InR_le (k := m) (by omega) h1 h2
  exact ⟨k, by omega, rfl⟩
theorem LO_kp {K : Nat → Nat × Nat} {R R2 : Nat → Nat → Option Nat} {n : Nat} {I J : Mem} {o : LawT} (h : LO K R n I 1 o) (hw : LOw o) (hk : Kp I J R R2) : LO K R2 n J 1 o := by
  match o, h, hw with
  | none, h, _ => show R2 1 18 = none; rw [hk.2.2 1 (by decide) (by decide)]; exact h
  | some (la, m, z, bg), ⟨e1, e2, e3, e4⟩, hw =>
    have hla : 338 ≤ la := hw
    have hrl : R2 la = R la := hk.2.2 la (by omega) (by omega)
    obtain ⟨g0, g1, g2, g3, g4, g5, f1, f2, f3, f4, f5, g6, g7, g8⟩ := e2
    obtain ⟨n1, n2, n3, n4⟩ := e3
    refine ⟨by rw [hk.2.2 1 (by decide) (by decide)]; exact e1, ⟨g0, g1, g2, g3, g4, g5, by rw [hrl]; exact f1, by rw [hrl]; exact f2, by rw [hrl]; exact f3, by rw [hrl]; exact f4, by rw [hrl]; exact f5, g6, g7, g8⟩, ⟨?_, fun l hl => ?_, n3, n4⟩, e4⟩
    · rw [hk.1 la (by omega) (by omega)]; exact n1
    · rw [hk.1 (la + 3) (by omega) (by omega)]; exact n2 l hl
theorem DOk_kp {K : Nat → Nat × Nat} {R R2 : Nat → Nat → Option Nat} {n H : Nat} {I J : Mem} {o : LawT} (h : DOk K R n I 1 o H) (hw : LOw o) (hk : Kp I J R R2) : DOk K R2 n J 1 o H := by
  obtain ⟨h1, h2, q, q1, q2⟩ := h
  exact ⟨LO_kp h1 hw hk, by rw [hk.1 1 (by decide) (by decide)]; exact h2, q, q1, by rw [hk.1 11 (by decide) (by decide)]; exact q2⟩
def powL (x : Int64) (i : Nat) : Int64 := forN (fun _ p => p * x) 1 i
def popC (x : Int32) : Int32 :=
  let a := x - (jushr x (nI 1) &&& nI 1431655765)
  let b := (a &&& nI 858993459) + (jushr a (nI 2) &&& nI 858993459)
  let c := b + jushr b (nI 4) &&& nI 252645135
  let e := c + jushr c (nI 8)
  let f := e + jushr e (nI 16)
  f &&& nI 63
def getsC (S : Mem) (h g : Nat) (x y : Int32) : Int32 := if x = nI 0 then (if y = nI 0 then S 6 h - S 6 g else S 6 h) else (if y = nI 0 then nI 0 - lackS S h / nI 10 else S 0 12 - nI 5)
def restP (S : Mem) (h g j : Nat) : Prop := ¬ getsC S h g (jshr (nI j) (nI 1)) (nI j &&& nI 1) < getsC S h g (nI 1 - jshr (nI j) (nI 1)) (nI j &&& nI 1) ∧ ¬ getsC S g h (nI j &&& nI 1) (jshr (nI j) (nI 1)) < getsC S g h (nI 1 - (nI j &&& nI 1)) (jshr (nI j) (nI 1))
noncomputable def restS (S : Mem) (h g i : Nat) : Int32 := forN (fun j f => @ite _ (restP S h g j) (Classical.propDecidable _) (f ||| jshl (nI 1) (nI j)) f) (nI 0) i
theorem ite_cl {α : Type} {p : Prop} [d : Decidable p] {a b : α} : @ite _ p (Classical.propDecidable _) a b = if p then a else b := by
  by_cases h : p
  · rw [if_pos h, if_pos h]
  · rw [if_neg h, if_neg h]
def TS (K : Nat → Nat × Nat) (L : Nat → Nat → Int64) : Prop := (∀ k, k < 3 → K (lmB + (1000 + k)) = (51, 6)) ∧ ∀ k j, k < 3 → L (lmB + (1000 + k)) j = Int64.ofNat ((rVl (1000 + k)).getD j 0)
def oddS (sh : Int32) (N k : Nat) (i : Nat) (p : Int64 × Int64) : Int64 × Int64 := ((if nI i < nI k then p.1 else p.1 + p.2 * powL sh.toInt64 i * powL (nI 100 - sh).toInt64 (N - i)), p.2 * (nI (N - i)).toInt64 / (nI (i + 1)).toInt64)
def oddF (sh : Int32) (N k i : Nat) : Int64 × Int64 := forN (fun j p => oddS sh N k j p) (0, 1) i
def oddV (sh : Int32) (N k : Nat) : Int32 := ((oddF sh N k (N + 1)).1 * 10000 / Int64.ofNat ([1, 100, 10000, 1000000, 100000000, 10000000000].getD N 0)).toInt32
theorem l_ne0 {k : Nat} (h0 : 0 < k) (h : k < 2 ^ 31) : ¬ (nI k).toInt64 = 0 := by
  rw [nI_l h]; intro e
  have := congrArg Int64.toInt e
  rw [lN_toInt h] at this
  have h2 : (0 : Int64).toInt = 0 := by decide
  rw [h2] at this; omega
def hearV (S : Mem) (h w : Nat) : Int32 := match w with
  | 0 => S 6 h
  | 1 => S 7 h
  | 2 => S 8 h
  | 3 => S 9 h
  | 4 => lackS S h
  | 5 => fopS S h
  | _ => shareS S h
def ledC (I : Mem) (h i : Nat) : Int32 := forN (fun j f => if toldF I 1 (nI j) 1 = nI h then f + nI 1 else f) (nI 0) i
def ledD (I : Mem) (h : Nat) : Nat → Nat → Int32
  | 0, _ => -1
  | r + 1, i => if toldF I 1 (nI i) 1 = nI h then toldF I 1 (nI i) 0 else ledD I h r (i + 1)
def ripeP (S : Mem) (c : Nat) : Prop := nI 0 < S 3 c ∧ ¬ S 4 c < nI 60
abbrev ripeQ (S : Mem) (c : Nat) : Prop := nI 0 < S 3 c ∧ ¬ S 4 c < nI 60
abbrev floodQ (S : Mem) : Prop := S 2 (mostN (S 2) 25) = nI 9
def standB (w c : Nat) (S : Mem) : Bool := match w with
  | 0 => decide (ripeQ S c)
  | 1 => decide (openQ S c)
  | _ => decide (floodQ S)
def fdV (w c : Nat) (o : LawT) (H : Nat) : Nat → Nat → Mem → Int32
  | 0, i, J => bif standB w c (vw 13 J) then nI i else -1
  | r + 1, i, J => bif standB w c (vw 13 J) then nI i else fdV w c o H r (i + 1) (dayF J 13 o H).2
/-- rows that working on the draft leaves as they are -/
def KpD (o : LawT) (I J : Mem) : Prop := (∀ a, (a < 13 ∨ 25 ≤ a) → offL o a → J a = I a) ∧ Nrm (vw 13 J)
theorem KpD_cp {o : LawT} {I : Mem} (hN : Nrm (vw 1 I)) : KpD o I (cpS I 13 1) := ⟨fun a ha _ => cpS_out (by omega), Nrm_cp hN⟩
theorem KpD_day {K : Nat → Nat × Nat} {R : Nat → Nat → Option Nat} {n H : Nat} {o : LawT} {I J : Mem} (h : KpD o I J) (hd : DOk K R n J 13 o H) : KpD o I (dayF J 13 o H).2 :=
  ⟨fun a ha hl => (dayF_out (by omega) hl).trans (h.1 a ha hl), Nrm_day hd h.2⟩
theorem KpD_sky {o : LawT} {I J : Mem} (h : KpD o I J) : KpD o I (skyM J 13) :=
  ⟨fun a ha hl => (skyM_out (by omega)).trans (h.1 a ha hl), Nrm_sky h.2⟩
theorem v13_0 {I : Nat → Nat → Int32} : vw 13 I 0 = I 13 := rfl
theorem v13_1 {I : Nat → Nat → Int32} : vw 13 I 1 = I 14 := rfl
theorem v13_2 {I : Nat → Nat → Int32} : vw 13 I 2 = I 15 := rfl
theorem v13_3 {I : Nat → Nat → Int32} : vw 13 I 3 = I 16 := rfl
theorem v13_4 {I : Nat → Nat → Int32} : vw 13 I 4 = I 17 := rfl
theorem v13_5 {I : Nat → Nat → Int32} : vw 13 I 5 = I 18 := rfl
theorem v13_6 {I : Nat → Nat → Int32} : vw 13 I 6 = I 19 := rfl
theorem v13_7 {I : Nat → Nat → Int32} : vw 13 I 7 = I 20 := rfl
theorem v13_8 {I : Nat → Nat → Int32} : vw 13 I 8 = I 21 := rfl
theorem v13_9 {I : Nat → Nat → Int32} : vw 13 I 9 = I 22 := rfl
theorem v13_10 {I : Nat → Nat → Int32} : vw 13 I 10 = I 23 := rfl
theorem v13_11 {I : Nat → Nat → Int32} : vw 13 I 11 = I 24 := rfl
theorem od_ne {a : Nat} (h : a ≤ 5) : ¬ Int64.ofNat ([1, 100, 10000, 1000000, 100000000, 10000000000].getD a 0) = 0 := by
  have : a = 0 ∨ a = 1 ∨ a = 2 ∨ a = 3 ∨ a = 4 ∨ a = 5 := by omega
  rcases this with rfl | rfl | rfl | rfl | rfl | rfl <;> decide
def countV (S : Mem) (A : Nat) (l : Int32) (w : Nat) : Int32 := match w with
  | 0 => S 0 10
  | 1 => S 0 17
  | 2 => l
  | 3 => S 0 12
  | 4 => S 0 13
  | 5 => S 0 14
  | 6 => S 0 15
  | 7 => sumN (S 1) 25
  | 8 => sumN (S 3) 25
  | 9 => sumN (S 8) 6
  | 10 => popC (S 0 11)
  | 11 => S 10 2
  | _ => nI A
theorem c_oneIfV {d : Nat} {K : Nat → Nat × Nat} {I : Mem} {L : Nat → Nat → Int64} {R : Nat → Nat → Option Nat} {n s : Nat} {Q : Lo → Lm → Prop} {x : Int32} (hr : x = 0 ∨ x = 1) (kk : Q (.inl (some (.int x))) (K, I, L, R, n, s)) : Ok (d + 1) 62 [.int x] (K, I, L, R, n, s) Q := by
  rcases hr with rfl | rfl
  · exact c_oneIf (p := False) kk
  · exact c_oneIf (p := True) kk

theorem c_days {d : Nat} {K : Nat → Nat × Nat} {I : Nat → Nat → Int32} {L : Nat → Nat → Int64} {R : Nat → Nat → Option Nat} {n s : Nat} {Q : Lo → Lm → Prop} {x : Int32} {H : Nat} {o : LawT} {p : Nat → Nat} {A : Nat} {Ss : Nat → Mem} (hT : TK K R n) (hf : n + 1 ≤ lmCells) (hs : s + 6 ≤ lmSlots) (hP : PastI I R p A Ss) (hr : I 1 14 = 0 ∨ I 1 14 = 1) (hn1 : Nrm (vw 1 I)) (hD : DOk K R n I 1 o H) (hw : LOw o) (hH6 : H ≤ 6) (kkE : ¬ (¬ x < nI 1 ∧ ¬ nI 60 < x) → Q (.inr n) (exM 14 (K, I, L, R, n, s))) (kk : ∀ k, 1 ≤ k → k ≤ 60 → x = nI k → ∀ J R2 p2, TK K R2 n → Kp I J R R2 → PastI J R2 p2 (pA A) (pS A Ss (vw 1 I)) → Q (.inl (some (.int ((ddayF J 1 o H k).1)))) (K, (ddayF J 1 o H k).2, L, R2, n, s)) : Ok (d + 6) 122 [.ref 0, .int x] (K, I, L, R, n, s) Q := by
  have hb := TK.s1 hT
  obtain ⟨-, -, hn⟩ := id hT
  refine Ok.enter (F := F_122) (ls := [.ref 0, .int x, lDead, lDead]) rfl rfl ?_
  refine wp_iload1 (pc' := 1) rfl rfl ?_
  refine wp_iconst (v := nI 1) (pc' := 2) rfl rfl rfl ?_
  refine wp_bipush (v := nI 60) (pc' := 4) rfl rfl rfl ?_
  refine wp_callS3 (pc' := 7) rfl rfl rfl rfl rfl rfl ?_
  refine c_needDays hf hs (fun he => Cont.e rfl (kkE he)) (fun g1 g2 => ?_)
  obtain ⟨k, k1, k2, rfl⟩ := days_of g1 g2
  refine Cont.u ?_
  refine wp_aload0 (pc' := 8) rfl rfl ?_
  refine wp_callV1 (pc' := 11) rfl rfl rfl rfl rfl (by first | exact TK.k1 hT rfl | exact TK.kk hT rfl | exact TK.r hT rfl | assumption) rfl rfl ?_
  refine c_remember hT hP hr hn1 (fun J R2 p2 hT hkp hP2 => ?_)
  have hb := TK.s1 hT
  have hD := DOk_kp hD hw hkp
  refine Cont.u ?_
  refine wp_iconst (v := nI 0) (pc' := 12) rfl rfl rfl ?_
  refine wp_istore2 (pc' := 13) rfl (by first | rfl | assumption) rfl ?_
  refine wp_iconst (v := nI 0) (pc' := 14) rfl rfl rfl ?_
  refine wp_istore3 (pc' := 15) rfl (by first | rfl | assumption) rfl ?_
  have lp15 : ∀ r (i : Nat), i + r = k → WP (d + 5) F_122 15 [.ref 0, .int (nI k), .int (ddayF J 1 o H i).1, .int (nI i)] [] (K, (ddayF J 1 o H i).2, L, R2, n, s) Q := by
    intro r; induction r with
    | zero =>
      intro i hi 
      have hi2 : i = k := by omega
      subst hi2
      refine wp_iload3 (pc' := 16) rfl rfl ?_
      refine wp_iload1 (pc' := 17) rfl rfl ?_
      refine wp_icmpgeT rfl (nI_nlt (by omega) (by omega)) ?_
      refine wp_iload2 (pc' := 44) rfl rfl ?_
      refine wp_iret rfl rfl rfl ?_
      exact kk _ k1 k2 rfl J R2 p2 hT hkp hP2
    | succ r ih =>
      intro i hi 
      have hlt : i < k := by omega
      have hd := DOk_dday hD i
      obtain ⟨y, M, hp⟩ : ∃ y M, ddayF J 1 o H i = (y, M) := ⟨_, _, rfl⟩
      have hsx : ddayF J 1 o H (i + 1) = ddayS 1 o H (y, M) := by rw [← hp]; rfl
      rw [hp] at hd ⊢
      dsimp only at hd ⊢
      have hd2 := DOk_sky hd
      refine wp_iload3 (pc' := 16) rfl rfl ?_
      refine wp_iload1 (pc' := 17) rfl rfl ?_
      refine wp_icmpgeF (pc' := 20) rfl (nI_lt (by omega) (by omega)) rfl ?_
      refine wp_aload0 (pc' := 21) rfl rfl ?_
      refine wp_getRF (pc' := 24) rfl rfl (by first | exact TK.k1 hT rfl | exact TK.kk hT rfl | exact TK.r hT rfl | assumption) (by first | exact TK.k1 hT rfl | exact TK.kk hT rfl | exact TK.r hT rfl | assumption) rfl ?_
      refine wp_callV1 (pc' := 27) rfl rfl rfl rfl rfl (by first | exact TK.k1 hT rfl | exact TK.kk hT rfl | exact TK.r hT rfl | assumption) rfl rfl ?_
      refine c_drawSky hb ?_
      refine Cont.u ?_
      refine wp_iload2 (pc' := 28) rfl rfl ?_
      refine wp_aload0 (pc' := 29) rfl rfl ?_
      refine wp_getRF (pc' := 32) rfl rfl (by first | exact TK.k1 hT rfl | exact TK.kk hT rfl | exact TK.r hT rfl | assumption) (by first | exact TK.k1 hT rfl | exact TK.kk hT rfl | exact TK.r hT rfl | assumption) rfl ?_
      refine wp_callV1 (pc' := 35) rfl rfl rfl rfl rfl (by first | exact TK.k1 hT rfl | exact TK.kk hT rfl | exact TK.r hT rfl | assumption) rfl rfl ?_
      refine c_passDay hb hd2.1 hd2.2.1 hH6 hd2.2.2 ?_
      refine Cont.v ?_
      first | refine wp_iaddN (pc' := 36) rfl (by with_reducible rfl) (by with_reducible rfl) rfl ?_ | refine wp_iadd (pc' := 36) rfl rfl ?_
      refine wp_istore2 (pc' := 37) rfl (by first | rfl | assumption) rfl ?_
      first | refine wp_iinc3 (w := nI 1) (pc' := 40) rfl rfl rfl (by with_reducible exact nI_add _ _) rfl ?_ | refine wp_iinc3 (w := nI 1) (pc' := 40) rfl rfl rfl rfl rfl ?_
      refine wp_goto rfl ?_
      exact WP.cg (ih (i + 1) (by omega)) (lC1 (lI1 (by first | with_reducible rfl | (rw [hsx]; rfl)) (lI1 (by first | with_reducible rfl | (rw [hsx]; rfl)) (lI1 (by first | with_reducible rfl | (rw [hsx]; rfl)) rfl)))) rfl (by rw [hsx]; rfl)
  exact WP.cg (lp15 (k - (0)) (0) (by omega)) (lC1 (lI1 (by rfl) (lI1 (by rfl) (lI1 (by rfl) rfl)))) rfl (by rfl)
theorem c_undo {d : Nat} {K : Nat → Nat × Nat} {I : Nat → Nat → Int32} {L : Nat → Nat → Int64} {R : Nat → Nat → Option Nat} {n s : Nat} {Q : Lo → Lm → Prop} {p : Nat → Nat} {A : Nat} {Ss : Nat → Mem} (hT : TK K R n) (hP : PastI I R p A Ss) (hn1 : Nrm (vw 1 I)) (hra : ∀ i, i < A → I (p i) 14 = 0 ∨ I (p i) 14 = 1) (kk0 : A = 0 → Q (.inl (some (.int (nI 0)))) (K, I, L, R, n, s)) (kk : ∀ a, A = a + 1 → Q (.inl (some (.int (nI 1)))) (K, cpS (up2 I 0 5 (nI a)) 1 (p a), L, up2 R 1 18 (R (p a) 18), n, s)) : Ok (d + 3) 58 [.ref 0] (K, I, L, R, n, s) Q := by
  have hb := TK.s1 hT
  obtain ⟨-, -, hn⟩ := id hT
  refine Ok.enter (F := F_58) (ls := [.ref 0]) rfl rfl ?_
  refine wp_aload0 (pc' := 1) rfl rfl ?_
  refine wp_getI (pc' := 4) rfl rfl (by first | exact TK.k1 hT rfl | exact TK.kk hT rfl | exact TK.r hT rfl | assumption) rfl ?_
  rw [hP.2.2.2.1]
  first | refine wp_ifneB (pc' := 7) rfl rfl ?_ ?_ | refine wp_ifne (pc' := 7) rfl rfl ?_ ?_
  · intro h4
    obtain ⟨a, rfl⟩ : ∃ a, A = a + 1 := ⟨A - 1, by
      have : A ≠ 0 := fun e => h4 (by rw [e])
      omega⟩
    obtain ⟨e1, e2, e3, e4, e5⟩ := id hP
    obtain ⟨ra, ⟨rb, rc, rd⟩, re⟩ := e1 a (by omega)
    have hs2 := hT.stOf (Or.inr ⟨rb, rc, rd⟩)
    refine wp_aload0 (pc' := 10) rfl rfl ?_
    refine wp_dup (pc' := 11) rfl rfl rfl ?_
    refine wp_getI (pc' := 14) rfl rfl (by first | exact TK.k1 hT rfl | exact TK.kk hT rfl | exact TK.r hT rfl | assumption) rfl ?_
    rw [hP.2.2.2.1]
    refine wp_iconst (v := nI 1) (pc' := 15) rfl rfl rfl ?_
    first | refine wp_isubN (pc' := 16) rfl (by with_reducible rfl) (by with_reducible rfl) (by omega) rfl ?_ | refine wp_isub (pc' := 16) rfl rfl ?_
    refine wp_putI (pc' := 19) rfl rfl (by first | exact TK.k1 hT rfl | exact TK.kk hT rfl | exact TK.r hT rfl | assumption) (by omega) rfl ?_
    refine wp_aload0 (pc' := 20) rfl rfl ?_
    refine wp_getRF (pc' := 23) rfl rfl (by first | exact TK.k1 hT rfl | exact TK.kk hT rfl | exact TK.r hT rfl | assumption) (by first | exact TK.k1 hT rfl | exact TK.kk hT rfl | exact TK.r hT rfl | assumption) rfl ?_
    refine wp_aload0 (pc' := 24) rfl rfl ?_
    refine wp_getRF (pc' := 27) rfl rfl (by first | exact TK.k1 hT rfl | exact TK.kk hT rfl | exact TK.r hT rfl | assumption) (by first | exact TK.k1 hT rfl | exact TK.kk hT rfl | exact TK.r hT rfl | assumption) rfl ?_
    refine wp_aload0 (pc' := 28) rfl rfl ?_
    refine wp_getI (pc' := 31) rfl rfl (by first | exact TK.k1 hT rfl | exact TK.kk hT rfl | exact TK.r hT rfl | assumption) rfl ?_
    rw [up2_hit]
    refine wp_aald a (pc' := 32) rfl (TK.kk hT rfl) rfl (by omega) (by decide) ra rfl ?_
    refine wp_callV2 (pc' := 35) rfl rfl rfl rfl rfl (TK.k1 hT rfl) rfl rfl ?_
    refine c_copy hb hs2 (Or.inl (by omega)) (by rw [up2_row (by omega)]; exact hra a (by omega)) (nrm_05 hn1 (by decide)) (nrm_05 re (by omega)) ?_
    refine Cont.u ?_
    refine wp_iconst (v := nI 1) (pc' := 36) rfl rfl rfl ?_
    refine wp_iret rfl rfl (by first | rfl | exact nar_if) ?_
    exact kk a rfl
  · intro h4
    refine wp_iconst (v := nI 0) (pc' := 8) rfl rfl rfl ?_
    refine wp_iret rfl rfl (by first | rfl | exact nar_if) ?_
    exact kk0 ((nI_eq (by have := hP.2.2.1; omega) (by decide)).mp h4)
theorem c_image {d : Nat} {K : Nat → Nat × Nat} {I : Nat → Nat → Int32} {L : Nat → Nat → Int64} {R : Nat → Nat → Option Nat} {n s : Nat} {Q : Lo → Lm → Prop}  (hT : TK K R n) (hr : I 1 14 = 0 ∨ I 1 14 = 1) (hn1 : Nrm (vw 1 I)) (hn25 : Nrm (vw 25 I)) (kk : Q (.inl none) (K, up2 (cpS I 25 1) 0 3 (nI 1), L, up2 R 25 18 (R 1 18), n, s)) : Ok (d + 3) 59 [.ref 0] (K, I, L, R, n, s) Q := by
  have hb := TK.s1 hT
  obtain ⟨-, -, hn⟩ := id hT
  refine Ok.enter (F := F_59) (ls := [.ref 0]) rfl rfl ?_
  refine wp_aload0 (pc' := 1) rfl rfl ?_
  refine wp_getRF (pc' := 4) rfl rfl (by first | exact TK.k1 hT rfl | exact TK.kk hT rfl | exact TK.r hT rfl | assumption) (by first | exact TK.k1 hT rfl | exact TK.kk hT rfl | exact TK.r hT rfl | assumption) rfl ?_
  refine wp_aload0 (pc' := 5) rfl rfl ?_
  refine wp_getRF (pc' := 8) rfl rfl (by first | exact TK.k1 hT rfl | exact TK.kk hT rfl | exact TK.r hT rfl | assumption) (by first | exact TK.k1 hT rfl | exact TK.kk hT rfl | exact TK.r hT rfl | assumption) rfl ?_
  refine wp_callV2 (pc' := 11) rfl rfl rfl rfl rfl (by first | exact TK.k1 hT rfl | exact TK.kk hT rfl | exact TK.r hT rfl | assumption) rfl rfl ?_
  refine c_copy (TK.s25 hT) hb (Or.inr (by decide)) hr hn25 hn1 ?_
  have hT := TK_18 (b := 25) (v := R 1 18) hT (by unfold isSt; omega)
  refine Cont.u ?_
  refine wp_aload0 (pc' := 12) rfl rfl ?_
  refine wp_iconst (v := nI 1) (pc' := 13) rfl rfl rfl ?_
  refine wp_putZ (pc' := 16) rfl rfl (by first | exact TK.k1 hT rfl | exact TK.kk hT rfl | exact TK.r hT rfl | assumption) (by omega) (by first | exact Or.inl rfl | exact Or.inr rfl) rfl ?_
  refine wp_vret rfl rfl ?_
  exact kk
theorem c_back {d : Nat} {K : Nat → Nat × Nat} {I : Nat → Nat → Int32} {L : Nat → Nat → Int64} {R : Nat → Nat → Option Nat} {n s : Nat} {Q : Lo → Lm → Prop}  (hT : TK K R n) (hr : ¬ I 0 3 = nI 0 → I 25 14 = 0 ∨ I 25 14 = 1) (hn1 : Nrm (vw 1 I)) (hn25 : Nrm (vw 25 I)) (kk0 : I 0 3 = nI 0 → Q (.inl (some (.int (nI 0)))) (K, I, L, R, n, s)) (kk : ¬ I 0 3 = nI 0 → Q (.inl (some (.int (nI 1)))) (K, up2 (cpS I 1 25) 0 5 (nI 0), L, up2 R 1 18 (R 25 18), n, s)) : Ok (d + 3) 60 [.ref 0] (K, I, L, R, n, s) Q := by
  have hb := TK.s1 hT
  obtain ⟨-, -, hn⟩ := id hT
  refine Ok.enter (F := F_60) (ls := [.ref 0]) rfl rfl ?_
  refine wp_aload0 (pc' := 1) rfl rfl ?_
  refine wp_getZ (pc' := 4) rfl rfl (by first | exact TK.k1 hT rfl | exact TK.kk hT rfl | exact TK.r hT rfl | assumption) rfl ?_
  first | refine wp_ifneB (pc' := 7) rfl rfl ?_ ?_ | refine wp_ifne (pc' := 7) rfl rfl ?_ ?_
  · intro h4
    refine wp_aload0 (pc' := 10) rfl rfl ?_
    refine wp_getRF (pc' := 13) rfl rfl (by first | exact TK.k1 hT rfl | exact TK.kk hT rfl | exact TK.r hT rfl | assumption) (by first | exact TK.k1 hT rfl | exact TK.kk hT rfl | exact TK.r hT rfl | assumption) rfl ?_
    refine wp_aload0 (pc' := 14) rfl rfl ?_
    refine wp_getRF (pc' := 17) rfl rfl (by first | exact TK.k1 hT rfl | exact TK.kk hT rfl | exact TK.r hT rfl | assumption) (by first | exact TK.k1 hT rfl | exact TK.kk hT rfl | exact TK.r hT rfl | assumption) rfl ?_
    refine wp_callV2 (pc' := 20) rfl rfl rfl rfl rfl (by first | exact TK.k1 hT rfl | exact TK.kk hT rfl | exact TK.r hT rfl | assumption) rfl rfl ?_
    refine c_copy hb (TK.s25 hT) (Or.inl (by decide)) (hr h4) hn1 hn25 ?_
    have hT := TK_18 (b := 1) (v := R 25 18) hT (by unfold isSt; omega)
    refine Cont.u ?_
    refine wp_aload0 (pc' := 21) rfl rfl ?_
    refine wp_iconst (v := nI 0) (pc' := 22) rfl rfl rfl ?_
    refine wp_putI (pc' := 25) rfl rfl (by first | exact TK.k1 hT rfl | exact TK.kk hT rfl | exact TK.r hT rfl | assumption) (by omega) rfl ?_
    refine wp_iconst (v := nI 1) (pc' := 26) rfl rfl rfl ?_
    refine wp_iret rfl rfl (by first | rfl | exact nar_if) ?_
    exact kk h4
  · intro h4
    refine wp_iconst (v := nI 0) (pc' := 8) rfl rfl rfl ?_
    refine wp_iret rfl rfl (by first | rfl | exact nar_if) ?_
    exact kk0 h4
theorem c_log {d : Nat} {K : Nat → Nat × Nat} {I : Nat → Nat → Int32} {L : Nat → Nat → Int64} {R : Nat → Nat → Option Nat} {n s : Nat} {Q : Lo → Lm → Prop} {x z : Int32} (hT : TK K R n) (hf : n + 1 ≤ lmCells) (hs : s + 6 ≤ lmSlots) {q rr : Nat} (hq : I 11 1 = nI q) (hq60 : q < 60) (hrr : I 11 2 = nI rr) (hr60 : rr ≤ 60) (kkE : ¬ InR z 5 → Q (.inr n) (exM 17 (K, I, L, R, n, s))) (kk : ∀ w, w < 5 → z = nI w → Q (.inl (some (.int (toldF I 1 x w)))) (K, I, L, R, n, s)) : Ok (d + 2) 209 [.ref 0, .int x, .int z] (K, I, L, R, n, s) Q := by
  have hb := TK.s1 hT
  obtain ⟨-, -, hn⟩ := id hT
  refine Ok.enter (F := F_209) (ls := [.ref 0, .int x, .int z]) rfl rfl ?_
  refine wp_iload2 (pc' := 1) rfl rfl ?_
  refine wp_iflt (pc' := 4) rfl rfl ?_ ?_
  · intro h1
    refine wp_raise (pc := 9) rfl rfl rfl rfl rfl rfl rfl rfl rfl (by decide) (by decide) (by omega) (by omega) rfl ?_
    first | exact kkE (InR_neg (by decide) (by first | assumption)) | exact kkE (InR_ge (by decide) (by first | assumption))
  · intro h1
    refine wp_iload2 (pc' := 5) rfl rfl ?_
    refine wp_iconst (v := nI 5) (pc' := 6) rfl rfl rfl ?_
    refine wp_icmplt (pc' := 9) rfl rfl ?_ ?_
    · intro h6
      obtain ⟨w, hw, rfl⟩ := InR_of (k := 5) (by decide) h1 h6
      refine wp_aload0 (pc' := 21) rfl rfl ?_
      refine wp_getRF (pc' := 24) rfl rfl (by first | exact TK.k1 hT rfl | exact TK.kk hT rfl | exact TK.r hT rfl | assumption) (by first | exact TK.k1 hT rfl | exact TK.kk hT rfl | exact TK.r hT rfl | assumption) rfl ?_
      refine wp_getRF (pc' := 27) rfl rfl (by first | exact TK.k1 hT rfl | exact TK.kk hT rfl | exact TK.r hT rfl | assumption) (by first | exact TK.k1 hT rfl | exact TK.kk hT rfl | exact TK.r hT rfl | assumption) rfl ?_
      refine wp_iload1 (pc' := 28) rfl rfl ?_
      refine wp_iload2 (pc' := 29) rfl rfl ?_
      refine wp_callV3 (pc' := 32) rfl rfl rfl rfl rfl (by first | exact TK.k1 hT rfl | exact TK.kk hT rfl | exact TK.r hT rfl | assumption) rfl rfl ?_
      refine c_told hb hw hq hq60 hrr hr60 ?_
      refine Cont.v ?_
      refine wp_iret rfl rfl rfl ?_
      exact kk w hw rfl
    · intro h6
      refine wp_raise (pc := 9) rfl rfl rfl rfl rfl rfl rfl rfl rfl (by decide) (by decide) (by omega) (by omega) rfl ?_
      first | exact kkE (InR_neg (by decide) (by first | assumption)) | exact kkE (InR_ge (by decide) (by first | assumption))
theorem c_led0 {d : Nat} {K : Nat → Nat × Nat} {I : Nat → Nat → Int32} {L : Nat → Nat → Int64} {R : Nat → Nat → Option Nat} {n s : Nat} {Q : Lo → Lm → Prop} {x : Int32} (hT : TK K R n) (hf : n + 1 ≤ lmCells) (hs : s + 6 ≤ lmSlots) {H : Nat} (hH : I 1 10 = nI H) (hH6 : H ≤ 6) {q rr : Nat} (hq : I 11 1 = nI q) (hq60 : q < 60) (hrr : I 11 2 = nI rr) (hr60 : rr ≤ 60) (kkE : ¬ InR x H → Q (.inr n) (exM 16 (K, I, L, R, n, s))) (kk : ∀ h, h < H → x = nI h → Q (.inl (some (.int (ledC I h rr)))) (K, I, L, R, n, s)) : Ok (d + 2) 206 [.ref 0, .int x, .int (nI 0)] (K, I, L, R, n, s) Q := by
  have hb := TK.s1 hT
  obtain ⟨-, -, hn⟩ := id hT
  refine Ok.enter (F := F_206) (ls := [.ref 0, .int x, .int (nI 0), lDead, lDead]) rfl rfl ?_
  refine wp_aload0 (pc' := 1) rfl rfl ?_
  refine wp_iload1 (pc' := 2) rfl rfl ?_
  refine wp_callV2 (pc' := 5) rfl rfl rfl rfl rfl (by first | exact TK.k1 hT rfl | exact TK.kk hT rfl | exact TK.r hT rfl | assumption) rfl rfl ?_
  refine c_needHearth hT hH hH6 hf hs (fun he => Cont.e rfl (kkE he)) (fun h hh hx => ?_)
  subst hx
  refine Cont.u ?_
  refine wp_iconst (v := nI 0) (pc' := 6) rfl rfl rfl ?_
  refine wp_istore3 (pc' := 7) rfl (by first | rfl | assumption) rfl ?_
  refine wp_iconst (v := nI 0) (pc' := 8) rfl rfl rfl ?_
  refine wp_istore4 (pc' := 10) rfl (by first | rfl | assumption) rfl ?_
  have lp10 : ∀ r (i : Nat), i + r = rr → WP (d + 1) F_206 10 [.ref 0, .int (nI h), .int (nI 0), .int (ledC I h i), .int (nI i)] [] (K, I, L, R, n, s) Q := by
    intro r; induction r with
    | zero =>
      intro i hi 
      have hi2 : i = rr := by omega
      subst hi2
      refine wp_iload4 (pc' := 12) rfl rfl ?_
      refine wp_aload0 (pc' := 13) rfl rfl ?_
      refine wp_getRF (pc' := 16) rfl rfl (by first | exact TK.k1 hT rfl | exact TK.kk hT rfl | exact TK.r hT rfl | assumption) (by first | exact TK.k1 hT rfl | exact TK.kk hT rfl | exact TK.r hT rfl | assumption) rfl ?_
      refine wp_getRF (pc' := 19) rfl rfl (by first | exact TK.k1 hT rfl | exact TK.kk hT rfl | exact TK.r hT rfl | assumption) (by first | exact TK.k1 hT rfl | exact TK.kk hT rfl | exact TK.r hT rfl | assumption) rfl ?_
      refine wp_getI (pc' := 22) rfl rfl (by first | exact TK.k1 hT rfl | exact TK.kk hT rfl | exact TK.r hT rfl | assumption) rfl ?_
      refine wp_icmpgeT rfl (by rw [hrr]; exact nI_nlt (by omega) (by omega)) ?_
      refine wp_iload2 (pc' := 70) rfl rfl ?_
      refine wp_ifeqT rfl rfl ?_
      refine wp_iload3 (pc' := 78) rfl rfl ?_
      refine wp_iret rfl rfl rfl ?_
      exact kk h hh rfl
    | succ r ih =>
      intro i hi 
      have hlt : i < rr := by omega
      refine wp_iload4 (pc' := 12) rfl rfl ?_
      refine wp_aload0 (pc' := 13) rfl rfl ?_
      refine wp_getRF (pc' := 16) rfl rfl (by first | exact TK.k1 hT rfl | exact TK.kk hT rfl | exact TK.r hT rfl | assumption) (by first | exact TK.k1 hT rfl | exact TK.kk hT rfl | exact TK.r hT rfl | assumption) rfl ?_
      refine wp_getRF (pc' := 19) rfl rfl (by first | exact TK.k1 hT rfl | exact TK.kk hT rfl | exact TK.r hT rfl | assumption) (by first | exact TK.k1 hT rfl | exact TK.kk hT rfl | exact TK.r hT rfl | assumption) rfl ?_
      refine wp_getI (pc' := 22) rfl rfl (by first | exact TK.k1 hT rfl | exact TK.kk hT rfl | exact TK.r hT rfl | assumption) rfl ?_
      refine wp_icmpgeF (pc' := 25) rfl (by rw [hrr]; exact nI_lt (by omega) (by omega)) rfl ?_
      refine wp_aload0 (pc' := 26) rfl rfl ?_
      refine wp_getRF (pc' := 29) rfl rfl (by first | exact TK.k1 hT rfl | exact TK.kk hT rfl | exact TK.r hT rfl | assumption) (by first | exact TK.k1 hT rfl | exact TK.kk hT rfl | exact TK.r hT rfl | assumption) rfl ?_
      refine wp_getRF (pc' := 32) rfl rfl (by first | exact TK.k1 hT rfl | exact TK.kk hT rfl | exact TK.r hT rfl | assumption) (by first | exact TK.k1 hT rfl | exact TK.kk hT rfl | exact TK.r hT rfl | assumption) rfl ?_
      refine wp_iload4 (pc' := 34) rfl rfl ?_
      refine wp_iconst (v := nI 1) (pc' := 35) rfl rfl rfl ?_
      refine wp_callV3 (pc' := 38) rfl rfl rfl rfl rfl (by first | exact TK.k1 hT rfl | exact TK.kk hT rfl | exact TK.r hT rfl | assumption) rfl rfl ?_
      refine c_told (w := 1) hb (by decide) hq hq60 hrr hr60 ?_
      refine Cont.v ?_
      refine wp_iload1 (pc' := 39) rfl rfl ?_
      refine wp_icmpne (pc' := 42) rfl rfl ?_ ?_
      · intro h39
        first | refine wp_iinc4 (w := nI 1) (pc' := 66) rfl rfl rfl (by with_reducible exact nI_add _ _) rfl ?_ | refine wp_iinc4 (w := nI 1) (pc' := 66) rfl rfl rfl rfl rfl ?_
        refine wp_goto rfl ?_
        exact WP.cg (ih (i + 1) (by omega)) (lC1 (lI1 (by first | with_reducible rfl | (simp only [ledC, forN, *, ↓reduceIte]; done)) (lI1 (by first | with_reducible rfl | (simp only [ledC, forN, *, ↓reduceIte]; done)) (lI1 (by first | with_reducible rfl | (simp only [ledC, forN, *, ↓reduceIte]; done)) (lI1 (by first | with_reducible rfl | (simp only [ledC, forN, *, ↓reduceIte]; done)) rfl))))) rfl (by first | with_reducible rfl | (simp only [forN, *, ↓reduceIte, not_true_eq_false, not_false_eq_true, and_self, and_true, true_and, and_false, false_and]; done) | rfl | (simp_all [forN]; done))
      · intro h39
        refine wp_iload2 (pc' := 43) rfl rfl ?_
        refine wp_ifeqT rfl rfl ?_
        first | refine wp_iinc3 (w := nI 1) (pc' := 63) rfl rfl rfl (by with_reducible exact nI_add _ _) rfl ?_ | refine wp_iinc3 (w := nI 1) (pc' := 63) rfl rfl rfl rfl rfl ?_
        first | refine wp_iinc4 (w := nI 1) (pc' := 66) rfl rfl rfl (by with_reducible exact nI_add _ _) rfl ?_ | refine wp_iinc4 (w := nI 1) (pc' := 66) rfl rfl rfl rfl rfl ?_
        refine wp_goto rfl ?_
        exact WP.cg (ih (i + 1) (by omega)) (lC1 (lI1 (by first | with_reducible rfl | (simp only [ledC, forN, *, ↓reduceIte]; done)) (lI1 (by first | with_reducible rfl | (simp only [ledC, forN, *, ↓reduceIte]; done)) (lI1 (by first | with_reducible rfl | (simp only [ledC, forN, *, ↓reduceIte]; done)) (lI1 (by first | with_reducible rfl | (simp only [ledC, forN, *, ↓reduceIte]; done)) rfl))))) rfl (by first | with_reducible rfl | (simp only [forN, *, ↓reduceIte, not_true_eq_false, not_false_eq_true, and_self, and_true, true_and, and_false, false_and]; done) | rfl | (simp_all [forN]; done))
  exact WP.cg (lp10 (rr - (0)) (0) (by omega)) (lC1 (lI1 (by rfl) (lI1 (by rfl) (lI1 (by rfl) (lI1 (by rfl) rfl))))) rfl (by first | with_reducible rfl | (simp only [forN, *, ↓reduceIte, not_true_eq_false, not_false_eq_true, and_self, and_true, true_and, and_false, false_and]; done) | rfl | (simp_all [forN]; done))
theorem c_led1 {d : Nat} {K : Nat → Nat × Nat} {I : Nat → Nat → Int32} {L : Nat → Nat → Int64} {R : Nat → Nat → Option Nat} {n s : Nat} {Q : Lo → Lm → Prop} {x : Int32} (hT : TK K R n) (hf : n + 1 ≤ lmCells) (hs : s + 6 ≤ lmSlots) {H : Nat} (hH : I 1 10 = nI H) (hH6 : H ≤ 6) {q rr : Nat} (hq : I 11 1 = nI q) (hq60 : q < 60) (hrr : I 11 2 = nI rr) (hr60 : rr ≤ 60) (kkE : ¬ InR x H → Q (.inr n) (exM 16 (K, I, L, R, n, s))) (kk : ∀ h, h < H → x = nI h → Q (.inl (some (.int (ledD I h rr 0)))) (K, I, L, R, n, s)) : Ok (d + 2) 206 [.ref 0, .int x, .int (nI 1)] (K, I, L, R, n, s) Q := by
  have hb := TK.s1 hT
  obtain ⟨-, -, hn⟩ := id hT
  refine Ok.enter (F := F_206) (ls := [.ref 0, .int x, .int (nI 1), lDead, lDead]) rfl rfl ?_
  refine wp_aload0 (pc' := 1) rfl rfl ?_
  refine wp_iload1 (pc' := 2) rfl rfl ?_
  refine wp_callV2 (pc' := 5) rfl rfl rfl rfl rfl (by first | exact TK.k1 hT rfl | exact TK.kk hT rfl | exact TK.r hT rfl | assumption) rfl rfl ?_
  refine c_needHearth hT hH hH6 hf hs (fun he => Cont.e rfl (kkE he)) (fun h hh hx => ?_)
  subst hx
  refine Cont.u ?_
  refine wp_iconst (v := nI 0) (pc' := 6) rfl rfl rfl ?_
  refine wp_istore3 (pc' := 7) rfl (by first | rfl | assumption) rfl ?_
  refine wp_iconst (v := nI 0) (pc' := 8) rfl rfl rfl ?_
  refine wp_istore4 (pc' := 10) rfl (by first | rfl | assumption) rfl ?_
  have lp10 : ∀ r (i : Nat), i + r = rr → ledD I h r i = ledD I h rr 0 → WP (d + 1) F_206 10 [.ref 0, .int (nI h), .int (nI 1), .int (nI 0), .int (nI i)] [] (K, I, L, R, n, s) Q := by
    intro r; induction r with
    | zero =>
      intro i hi hv0
      have hi2 : i = rr := by omega
      subst hi2
      refine wp_iload4 (pc' := 12) rfl rfl ?_
      refine wp_aload0 (pc' := 13) rfl rfl ?_
      refine wp_getRF (pc' := 16) rfl rfl (by first | exact TK.k1 hT rfl | exact TK.kk hT rfl | exact TK.r hT rfl | assumption) (by first | exact TK.k1 hT rfl | exact TK.kk hT rfl | exact TK.r hT rfl | assumption) rfl ?_
      refine wp_getRF (pc' := 19) rfl rfl (by first | exact TK.k1 hT rfl | exact TK.kk hT rfl | exact TK.r hT rfl | assumption) (by first | exact TK.k1 hT rfl | exact TK.kk hT rfl | exact TK.r hT rfl | assumption) rfl ?_
      refine wp_getI (pc' := 22) rfl rfl (by first | exact TK.k1 hT rfl | exact TK.kk hT rfl | exact TK.r hT rfl | assumption) rfl ?_
      refine wp_icmpgeT rfl (by rw [hrr]; exact nI_nlt (by omega) (by omega)) ?_
      refine wp_iload2 (pc' := 70) rfl rfl ?_
      refine wp_ifeqF (pc' := 73) rfl (by decide) rfl ?_
      refine wp_iconst (v := (-1)) (pc' := 74) rfl rfl rfl ?_
      refine wp_goto rfl ?_
      refine wp_iret rfl rfl rfl ?_
      exact Qv (kk h hh rfl) hv0 rfl
    | succ r ih =>
      intro i hi hv0
      have hlt : i < rr := by omega
      refine wp_iload4 (pc' := 12) rfl rfl ?_
      refine wp_aload0 (pc' := 13) rfl rfl ?_
      refine wp_getRF (pc' := 16) rfl rfl (by first | exact TK.k1 hT rfl | exact TK.kk hT rfl | exact TK.r hT rfl | assumption) (by first | exact TK.k1 hT rfl | exact TK.kk hT rfl | exact TK.r hT rfl | assumption) rfl ?_
      refine wp_getRF (pc' := 19) rfl rfl (by first | exact TK.k1 hT rfl | exact TK.kk hT rfl | exact TK.r hT rfl | assumption) (by first | exact TK.k1 hT rfl | exact TK.kk hT rfl | exact TK.r hT rfl | assumption) rfl ?_
      refine wp_getI (pc' := 22) rfl rfl (by first | exact TK.k1 hT rfl | exact TK.kk hT rfl | exact TK.r hT rfl | assumption) rfl ?_
      refine wp_icmpgeF (pc' := 25) rfl (by rw [hrr]; exact nI_lt (by omega) (by omega)) rfl ?_
      refine wp_aload0 (pc' := 26) rfl rfl ?_
      refine wp_getRF (pc' := 29) rfl rfl (by first | exact TK.k1 hT rfl | exact TK.kk hT rfl | exact TK.r hT rfl | assumption) (by first | exact TK.k1 hT rfl | exact TK.kk hT rfl | exact TK.r hT rfl | assumption) rfl ?_
      refine wp_getRF (pc' := 32) rfl rfl (by first | exact TK.k1 hT rfl | exact TK.kk hT rfl | exact TK.r hT rfl | assumption) (by first | exact TK.k1 hT rfl | exact TK.kk hT rfl | exact TK.r hT rfl | assumption) rfl ?_
      refine wp_iload4 (pc' := 34) rfl rfl ?_
      refine wp_iconst (v := nI 1) (pc' := 35) rfl rfl rfl ?_
      refine wp_callV3 (pc' := 38) rfl rfl rfl rfl rfl (by first | exact TK.k1 hT rfl | exact TK.kk hT rfl | exact TK.r hT rfl | assumption) rfl rfl ?_
      refine c_told (w := 1) hb (by decide) hq hq60 hrr hr60 ?_
      refine Cont.v ?_
      refine wp_iload1 (pc' := 39) rfl rfl ?_
      refine wp_icmpne (pc' := 42) rfl rfl ?_ ?_
      · intro h39
        first | refine wp_iinc4 (w := nI 1) (pc' := 66) rfl rfl rfl (by with_reducible exact nI_add _ _) rfl ?_ | refine wp_iinc4 (w := nI 1) (pc' := 66) rfl rfl rfl rfl rfl ?_
        refine wp_goto rfl ?_
        exact WP.cg (ih (i + 1) (by omega) (by rw [ledD, if_neg (by first | assumption)] at hv0; exact hv0)) (lC1 (lI1 (by first | with_reducible rfl | (simp only [forN, *, ↓reduceIte, not_true_eq_false, not_false_eq_true, and_self, and_true, true_and, and_false, false_and]; done) | rfl | (simp_all [forN]; done)) (lI1 (by first | with_reducible rfl | (simp only [forN, *, ↓reduceIte, not_true_eq_false, not_false_eq_true, and_self, and_true, true_and, and_false, false_and]; done) | rfl | (simp_all [forN]; done)) (lI1 (by first | with_reducible rfl | (simp only [forN, *, ↓reduceIte, not_true_eq_false, not_false_eq_true, and_self, and_true, true_and, and_false, false_and]; done) | rfl | (simp_all [forN]; done)) (lI1 (by first | with_reducible rfl | (simp only [forN, *, ↓reduceIte, not_true_eq_false, not_false_eq_true, and_self, and_true, true_and, and_false, false_and]; done) | rfl | (simp_all [forN]; done)) rfl))))) rfl (by first | with_reducible rfl | (simp only [forN, *, ↓reduceIte, not_true_eq_false, not_false_eq_true, and_self, and_true, true_and, and_false, false_and]; done) | rfl | (simp_all [forN]; done))
      · intro h39
        refine wp_iload2 (pc' := 43) rfl rfl ?_
        refine wp_ifeqF (pc' := 46) rfl (by decide) rfl ?_
        refine wp_aload0 (pc' := 47) rfl rfl ?_
        refine wp_getRF (pc' := 50) rfl rfl (by first | exact TK.k1 hT rfl | exact TK.kk hT rfl | exact TK.r hT rfl | assumption) (by first | exact TK.k1 hT rfl | exact TK.kk hT rfl | exact TK.r hT rfl | assumption) rfl ?_
        refine wp_getRF (pc' := 53) rfl rfl (by first | exact TK.k1 hT rfl | exact TK.kk hT rfl | exact TK.r hT rfl | assumption) (by first | exact TK.k1 hT rfl | exact TK.kk hT rfl | exact TK.r hT rfl | assumption) rfl ?_
        refine wp_iload4 (pc' := 55) rfl rfl ?_
        refine wp_iconst (v := nI 0) (pc' := 56) rfl rfl rfl ?_
        refine wp_callV3 (pc' := 59) rfl rfl rfl rfl rfl (by first | exact TK.k1 hT rfl | exact TK.kk hT rfl | exact TK.r hT rfl | assumption) rfl rfl ?_
        refine c_told (w := 0) hb (by decide) hq hq60 hrr hr60 ?_
        refine Cont.v ?_
        refine wp_iret rfl rfl rfl ?_
        exact Qv (kk h hh rfl) (by rw [ledD, if_pos (by first | assumption)] at hv0; exact hv0) rfl
  exact WP.cg (lp10 (rr - (0)) (0) (by omega) rfl) (lC1 (lI1 (by rfl) (lI1 (by rfl) (lI1 (by rfl) (lI1 (by rfl) rfl))))) rfl (by first | with_reducible rfl | (simp only [forN, *, ↓reduceIte, not_true_eq_false, not_false_eq_true, and_self, and_true, true_and, and_false, false_and]; done) | rfl | (simp_all [forN]; done))
theorem c_gets {d : Nat} {K : Nat → Nat × Nat} {I : Nat → Nat → Int32} {L : Nat → Nat → Int64} {R : Nat → Nat → Option Nat} {n s : Nat} {Q : Lo → Lm → Prop} {h g : Nat} {x y : Int32} (hT : TK K R n) (hh : h < 6) (hg : g < 6) (kk : Q (.inl (some (.int (getsC (vw 1 I) h g x y)))) (K, I, L, R, n, s)) : Ok (d + 2) 192 [.ref 0, .int (nI h), .int (nI g), .int x, .int y] (K, I, L, R, n, s) Q := by
  have hb := TK.s1 hT
  obtain ⟨-, -, hn⟩ := id hT
  refine Ok.enter (F := F_192) (ls := [.ref 0, .int (nI h), .int (nI g), .int x, .int y]) rfl rfl ?_
  refine wp_iload3 (pc' := 1) rfl rfl ?_
  first | refine wp_ifneB (pc' := 4) rfl rfl ?_ ?_ | refine wp_ifne (pc' := 4) rfl rfl ?_ ?_
  · intro h1
    refine wp_iload4 (pc' := 43) rfl rfl ?_
    first | refine wp_ifneB (pc' := 46) rfl rfl ?_ ?_ | refine wp_ifne (pc' := 46) rfl rfl ?_ ?_
    · intro h43
      refine wp_aload0 (pc' := 63) rfl rfl ?_
      refine wp_getRF (pc' := 66) rfl rfl (by first | exact TK.k1 hT rfl | exact TK.kk hT rfl | exact TK.r hT rfl | assumption) (by first | exact TK.k1 hT rfl | exact TK.kk hT rfl | exact TK.r hT rfl | assumption) rfl ?_
      refine wp_getI (pc' := 69) rfl rfl (by first | exact TK.k1 hT rfl | exact TK.kk hT rfl | exact TK.r hT rfl | assumption) rfl ?_
      refine wp_iconst (v := nI 5) (pc' := 70) rfl rfl rfl ?_
      first | refine wp_isubN (pc' := 71) rfl (by with_reducible rfl) (by with_reducible rfl) (by omega) rfl ?_ | refine wp_isub (pc' := 71) rfl rfl ?_
      refine wp_iret rfl rfl rfl ?_
      exact Qv kk (by first | rfl | (simp +decide only [getsC, v1_0, v1_1, v1_2, v1_3, v1_4, v1_5, v1_6, v1_7, v1_8, v1_9, v1_10, v1_11, *, ↓reduceIte, and_self, and_true, true_and, and_false, false_and, not_true_eq_false, not_false_eq_true]; done) | (simp_all [getsC, v1_0, v1_1, v1_2, v1_3, v1_4, v1_5, v1_6, v1_7, v1_8, v1_9, v1_10, v1_11]; done)) rfl
    · intro h43
      refine wp_iconst (v := nI 0) (pc' := 47) rfl rfl rfl ?_
      refine wp_aload0 (pc' := 48) rfl rfl ?_
      refine wp_getRF (pc' := 51) rfl rfl (by first | exact TK.k1 hT rfl | exact TK.kk hT rfl | exact TK.r hT rfl | assumption) (by first | exact TK.k1 hT rfl | exact TK.kk hT rfl | exact TK.r hT rfl | assumption) rfl ?_
      refine wp_iload1 (pc' := 52) rfl rfl ?_
      refine wp_callV2 (pc' := 55) rfl rfl rfl rfl rfl (by first | exact TK.k1 hT rfl | exact TK.kk hT rfl | exact TK.r hT rfl | assumption) rfl rfl ?_
      refine c_lacks hb (by omega) ?_
      refine Cont.v ?_
      refine wp_bipush (v := nI 10) (pc' := 57) rfl rfl rfl ?_
      first | refine wp_idivN (pc' := 58) rfl (by with_reducible rfl) (by with_reducible rfl) (by omega) (by omega) (by omega) rfl ?_ | refine wp_idiv (pc' := 58) rfl (by decide) rfl ?_
      first | refine wp_isubN (pc' := 59) rfl (by with_reducible rfl) (by with_reducible rfl) (by omega) rfl ?_ | refine wp_isub (pc' := 59) rfl rfl ?_
      refine wp_goto rfl ?_
      refine wp_iret rfl rfl rfl ?_
      exact Qv kk (by first | rfl | (simp +decide only [getsC, v1_0, v1_1, v1_2, v1_3, v1_4, v1_5, v1_6, v1_7, v1_8, v1_9, v1_10, v1_11, *, ↓reduceIte, and_self, and_true, true_and, and_false, false_and, not_true_eq_false, not_false_eq_true]; done) | (simp_all [getsC, v1_0, v1_1, v1_2, v1_3, v1_4, v1_5, v1_6, v1_7, v1_8, v1_9, v1_10, v1_11]; done)) rfl
  · intro h1
    refine wp_iload4 (pc' := 6) rfl rfl ?_
    first | refine wp_ifneB (pc' := 9) rfl rfl ?_ ?_ | refine wp_ifne (pc' := 9) rfl rfl ?_ ?_
    · intro h6
      refine wp_aload0 (pc' := 32) rfl rfl ?_
      refine wp_getRF (pc' := 35) rfl rfl (by first | exact TK.k1 hT rfl | exact TK.kk hT rfl | exact TK.r hT rfl | assumption) (by first | exact TK.k1 hT rfl | exact TK.kk hT rfl | exact TK.r hT rfl | assumption) rfl ?_
      refine wp_getRF (pc' := 38) rfl rfl (by first | exact TK.k1 hT rfl | exact TK.kk hT rfl | exact TK.r hT rfl | assumption) (by first | exact TK.k1 hT rfl | exact TK.kk hT rfl | exact TK.r hT rfl | assumption) rfl ?_
      refine wp_iload1 (pc' := 39) rfl rfl ?_
      refine wp_iald _ (pc' := 40) rfl (by first | exact TK.k1 hT rfl | exact TK.kk hT rfl | exact TK.r hT rfl | assumption) (by with_reducible rfl) (by omega) (by first | decide | assumption | omega) rfl ?_
      refine wp_iret rfl rfl rfl ?_
      exact Qv kk (by first | rfl | (simp +decide only [getsC, v1_0, v1_1, v1_2, v1_3, v1_4, v1_5, v1_6, v1_7, v1_8, v1_9, v1_10, v1_11, *, ↓reduceIte, and_self, and_true, true_and, and_false, false_and, not_true_eq_false, not_false_eq_true]; done) | (simp_all [getsC, v1_0, v1_1, v1_2, v1_3, v1_4, v1_5, v1_6, v1_7, v1_8, v1_9, v1_10, v1_11]; done)) rfl
    · intro h6
      refine wp_aload0 (pc' := 10) rfl rfl ?_
      refine wp_getRF (pc' := 13) rfl rfl (by first | exact TK.k1 hT rfl | exact TK.kk hT rfl | exact TK.r hT rfl | assumption) (by first | exact TK.k1 hT rfl | exact TK.kk hT rfl | exact TK.r hT rfl | assumption) rfl ?_
      refine wp_getRF (pc' := 16) rfl rfl (by first | exact TK.k1 hT rfl | exact TK.kk hT rfl | exact TK.r hT rfl | assumption) (by first | exact TK.k1 hT rfl | exact TK.kk hT rfl | exact TK.r hT rfl | assumption) rfl ?_
      refine wp_iload1 (pc' := 17) rfl rfl ?_
      refine wp_iald _ (pc' := 18) rfl (by first | exact TK.k1 hT rfl | exact TK.kk hT rfl | exact TK.r hT rfl | assumption) (by with_reducible rfl) (by omega) (by first | decide | assumption | omega) rfl ?_
      refine wp_aload0 (pc' := 19) rfl rfl ?_
      refine wp_getRF (pc' := 22) rfl rfl (by first | exact TK.k1 hT rfl | exact TK.kk hT rfl | exact TK.r hT rfl | assumption) (by first | exact TK.k1 hT rfl | exact TK.kk hT rfl | exact TK.r hT rfl | assumption) rfl ?_
      refine wp_getRF (pc' := 25) rfl rfl (by first | exact TK.k1 hT rfl | exact TK.kk hT rfl | exact TK.r hT rfl | assumption) (by first | exact TK.k1 hT rfl | exact TK.kk hT rfl | exact TK.r hT rfl | assumption) rfl ?_
      refine wp_iload2 (pc' := 26) rfl rfl ?_
      refine wp_iald _ (pc' := 27) rfl (by first | exact TK.k1 hT rfl | exact TK.kk hT rfl | exact TK.r hT rfl | assumption) (by with_reducible rfl) (by omega) (by first | decide | assumption | omega) rfl ?_
      first | refine wp_isubN (pc' := 28) rfl (by with_reducible rfl) (by with_reducible rfl) (by omega) rfl ?_ | refine wp_isub (pc' := 28) rfl rfl ?_
      refine wp_goto rfl ?_
      refine wp_iret rfl rfl rfl ?_
      exact Qv kk (by first | rfl | (simp +decide only [getsC, v1_0, v1_1, v1_2, v1_3, v1_4, v1_5, v1_6, v1_7, v1_8, v1_9, v1_10, v1_11, *, ↓reduceIte, and_self, and_true, true_and, and_false, false_and, not_true_eq_false, not_false_eq_true]; done) | (simp_all [getsC, v1_0, v1_1, v1_2, v1_3, v1_4, v1_5, v1_6, v1_7, v1_8, v1_9, v1_10, v1_11]; done)) rfl
theorem c_rests {d : Nat} {K : Nat → Nat × Nat} {I : Nat → Nat → Int32} {L : Nat → Nat → Int64} {R : Nat → Nat → Option Nat} {n s : Nat} {Q : Lo → Lm → Prop} {x z : Int32} (hT : TK K R n) (hf : n + 1 ≤ lmCells) (hs : s + 6 ≤ lmSlots) {H : Nat} (hH : I 1 10 = nI H) (hH6 : H ≤ 6) (kkE : ¬ (InR x H ∧ InR z H) → Q (.inr n) (exM 16 (K, I, L, R, n, s))) (kkA : ∀ h g, h < H → g < H → x = nI h → z = nI g →  nI h = nI g → Q (.inr n) (exM 14 (K, I, L, R, n, s))) (kk : ∀ h g, h < H → g < H → x = nI h → z = nI g → ¬ nI h = nI g → Q (.inl (some (.int (restS (vw 1 I) h g 4)))) (K, I, L, R, n, s)) : Ok (d + 3) 191 [.ref 0, .int x, .int z] (K, I, L, R, n, s) Q := by
  have hb := TK.s1 hT
  obtain ⟨-, -, hn⟩ := id hT
  refine Ok.enter (F := F_191) (ls := [.ref 0, .int x, .int z, lDead, lDead, lDead, lDead]) rfl rfl ?_
  refine wp_aload0 (pc' := 1) rfl rfl ?_
  refine wp_iload1 (pc' := 2) rfl rfl ?_
  refine wp_callV2 (pc' := 5) rfl rfl rfl rfl rfl (by first | exact TK.k1 hT rfl | exact TK.kk hT rfl | exact TK.r hT rfl | assumption) rfl rfl ?_
  refine c_needHearth hT hH hH6 hf hs (fun he => Cont.e rfl (kkE (fun h => he h.1))) (fun h hh hx => ?_)
  subst hx
  refine Cont.u ?_
  refine wp_aload0 (pc' := 6) rfl rfl ?_
  refine wp_iload2 (pc' := 7) rfl rfl ?_
  refine wp_callV2 (pc' := 10) rfl rfl rfl rfl rfl (by first | exact TK.k1 hT rfl | exact TK.kk hT rfl | exact TK.r hT rfl | assumption) rfl rfl ?_
  refine c_needHearth hT hH hH6 hf hs (fun he => Cont.e rfl (kkE (fun h => he h.2))) (fun g hg hx => ?_)
  subst hx
  refine Cont.u ?_
  refine wp_iload1 (pc' := 11) rfl rfl ?_
  refine wp_iload2 (pc' := 12) rfl rfl ?_
  refine wp_icmpne (pc' := 15) rfl rfl ?_ ?_
  · intro h12
    refine wp_iconst (v := nI 0) (pc' := 27) rfl rfl rfl ?_
    refine wp_istore3 (pc' := 28) rfl (by first | rfl | assumption) rfl ?_
    refine wp_iconst (v := nI 0) (pc' := 29) rfl rfl rfl ?_
    refine wp_istore4 (pc' := 31) rfl (by first | rfl | assumption) rfl ?_
    have lp31 : ∀ r (i : Nat) (v5 : Value) (v6 : Value), i + r = 4 → isL v5 = false → isL v6 = false → WP (d + 2) F_191 31 [.ref 0, .int (nI h), .int (nI g), .int (restS (vw 1 I) h g i), .int (nI i), v5, v6] [] (K, I, L, R, n, s) Q := by
      intro r; induction r with
      | zero =>
        intro i v5 v6 hi hv0 hv1
        have hi2 : i = 4 := by omega
        subst hi2
        refine wp_iload4 (pc' := 33) rfl rfl ?_
        refine wp_iconst (v := nI 4) (pc' := 34) rfl rfl rfl ?_
        refine wp_icmpgeT rfl (nI_nlt (by omega) (by omega)) ?_
        refine wp_iload3 (pc' := 113) rfl rfl ?_
        refine wp_iret rfl rfl rfl ?_
        exact kk h g hh hg rfl rfl (by first | assumption)
      | succ r ih =>
        intro i v5 v6 hi hv0 hv1
        have hlt : i < 4 := by omega
        refine wp_iload4 (pc' := 33) rfl rfl ?_
        refine wp_iconst (v := nI 4) (pc' := 34) rfl rfl rfl ?_
        refine wp_icmpgeF (pc' := 37) rfl (nI_lt (by omega) (by omega)) rfl ?_
        refine wp_iload4 (pc' := 39) rfl rfl ?_
        refine wp_iconst (v := nI 1) (pc' := 40) rfl rfl rfl ?_
        refine wp_ishr (pc' := 41) rfl rfl ?_
        refine wp_istore5 (pc' := 43) rfl (by first | rfl | assumption) rfl ?_
        refine wp_iload4 (pc' := 45) rfl rfl ?_
        refine wp_iconst (v := nI 1) (pc' := 46) rfl rfl rfl ?_
        refine wp_iand (pc' := 47) rfl rfl ?_
        refine wp_istore6 (pc' := 49) rfl (by first | rfl | assumption) rfl ?_
        refine wp_aload0 (pc' := 50) rfl rfl ?_
        refine wp_iload1 (pc' := 51) rfl rfl ?_
        refine wp_iload2 (pc' := 52) rfl rfl ?_
        refine wp_iload5 (pc' := 54) rfl rfl ?_
        refine wp_iload6 (pc' := 56) rfl rfl ?_
        refine wp_callV5 (pc' := 59) rfl rfl rfl rfl rfl (by first | exact TK.k1 hT rfl | exact TK.kk hT rfl | exact TK.r hT rfl | assumption) rfl rfl ?_
        refine c_gets hT (by omega) (by omega) ?_
        refine Cont.v ?_
        refine wp_aload0 (pc' := 60) rfl rfl ?_
        refine wp_iload1 (pc' := 61) rfl rfl ?_
        refine wp_iload2 (pc' := 62) rfl rfl ?_
        refine wp_iconst (v := nI 1) (pc' := 63) rfl rfl rfl ?_
        refine wp_iload5 (pc' := 65) rfl rfl ?_
        first | refine wp_isubN (pc' := 66) rfl (by with_reducible rfl) (by with_reducible rfl) (by omega) rfl ?_ | refine wp_isub (pc' := 66) rfl rfl ?_
        refine wp_iload6 (pc' := 68) rfl rfl ?_
        refine wp_callV5 (pc' := 71) rfl rfl rfl rfl rfl (by first | exact TK.k1 hT rfl | exact TK.kk hT rfl | exact TK.r hT rfl | assumption) rfl rfl ?_
        refine c_gets hT (by omega) (by omega) ?_
        refine Cont.v ?_
        refine wp_icmplt (pc' := 74) rfl rfl ?_ ?_
        · intro h71
          first | refine wp_iinc4 (w := nI 1) (pc' := 109) rfl rfl rfl (by with_reducible exact nI_add _ _) rfl ?_ | refine wp_iinc4 (w := nI 1) (pc' := 109) rfl rfl rfl rfl rfl ?_
          refine wp_goto rfl ?_
          exact WP.cg (ih (i + 1) _ _ (by omega) (by first | rfl | assumption) (by first | rfl | assumption)) (lC1 (lI1 (by first | with_reducible rfl | (show _ = forN _ _ _; rw [forN]; (first | rw [if_pos (show restP (vw 1 I) h g i from ⟨h71, h96⟩)] | rw [if_neg (fun q : restP (vw 1 I) h g i => q.2 h96)] | rw [if_neg (fun q : restP (vw 1 I) h g i => q.1 h71)]); first | done | rfl)) (lI1 (by first | with_reducible rfl | (show _ = forN _ _ _; rw [forN]; (first | rw [if_pos (show restP (vw 1 I) h g i from ⟨h71, h96⟩)] | rw [if_neg (fun q : restP (vw 1 I) h g i => q.2 h96)] | rw [if_neg (fun q : restP (vw 1 I) h g i => q.1 h71)]); first | done | rfl)) (lI1 (by first | with_reducible rfl | (show _ = forN _ _ _; rw [forN]; (first | rw [if_pos (show restP (vw 1 I) h g i from ⟨h71, h96⟩)] | rw [if_neg (fun q : restP (vw 1 I) h g i => q.2 h96)] | rw [if_neg (fun q : restP (vw 1 I) h g i => q.1 h71)]); first | done | rfl)) (lI1 (by first | with_reducible rfl | (show _ = forN _ _ _; rw [forN]; (first | rw [if_pos (show restP (vw 1 I) h g i from ⟨h71, h96⟩)] | rw [if_neg (fun q : restP (vw 1 I) h g i => q.2 h96)] | rw [if_neg (fun q : restP (vw 1 I) h g i => q.1 h71)]); first | done | rfl)) (lC1 (lC1 rfl))))))) rfl (by first | with_reducible rfl | (simp only [forN, *, ↓reduceIte, not_true_eq_false, not_false_eq_true, and_self, and_true, true_and, and_false, false_and]; done) | rfl | (simp_all [forN]; done))
        · intro h71
          refine wp_aload0 (pc' := 75) rfl rfl ?_
          refine wp_iload2 (pc' := 76) rfl rfl ?_
          refine wp_iload1 (pc' := 77) rfl rfl ?_
          refine wp_iload6 (pc' := 79) rfl rfl ?_
          refine wp_iload5 (pc' := 81) rfl rfl ?_
          refine wp_callV5 (pc' := 84) rfl rfl rfl rfl rfl (by first | exact TK.k1 hT rfl | exact TK.kk hT rfl | exact TK.r hT rfl | assumption) rfl rfl ?_
          refine c_gets hT (by omega) (by omega) ?_
          refine Cont.v ?_
          refine wp_aload0 (pc' := 85) rfl rfl ?_
          refine wp_iload2 (pc' := 86) rfl rfl ?_
          refine wp_iload1 (pc' := 87) rfl rfl ?_
          refine wp_iconst (v := nI 1) (pc' := 88) rfl rfl rfl ?_
          refine wp_iload6 (pc' := 90) rfl rfl ?_
          first | refine wp_isubN (pc' := 91) rfl (by with_reducible rfl) (by with_reducible rfl) (by omega) rfl ?_ | refine wp_isub (pc' := 91) rfl rfl ?_
          refine wp_iload5 (pc' := 93) rfl rfl ?_
          refine wp_callV5 (pc' := 96) rfl rfl rfl rfl rfl (by first | exact TK.k1 hT rfl | exact TK.kk hT rfl | exact TK.r hT rfl | assumption) rfl rfl ?_
          refine c_gets hT (by omega) (by omega) ?_
          refine Cont.v ?_
          refine wp_icmplt (pc' := 99) rfl rfl ?_ ?_
          · intro h96
            first | refine wp_iinc4 (w := nI 1) (pc' := 109) rfl rfl rfl (by with_reducible exact nI_add _ _) rfl ?_ | refine wp_iinc4 (w := nI 1) (pc' := 109) rfl rfl rfl rfl rfl ?_
            refine wp_goto rfl ?_
            exact WP.cg (ih (i + 1) _ _ (by omega) (by first | rfl | assumption) (by first | rfl | assumption)) (lC1 (lI1 (by first | with_reducible rfl | (show _ = forN _ _ _; rw [forN]; (first | rw [if_pos (show restP (vw 1 I) h g i from ⟨h71, h96⟩)] | rw [if_neg (fun q : restP (vw 1 I) h g i => q.2 h96)] | rw [if_neg (fun q : restP (vw 1 I) h g i => q.1 h71)]); first | done | rfl)) (lI1 (by first | with_reducible rfl | (show _ = forN _ _ _; rw [forN]; (first | rw [if_pos (show restP (vw 1 I) h g i from ⟨h71, h96⟩)] | rw [if_neg (fun q : restP (vw 1 I) h g i => q.2 h96)] | rw [if_neg (fun q : restP (vw 1 I) h g i => q.1 h71)]); first | done | rfl)) (lI1 (by first | with_reducible rfl | (show _ = forN _ _ _; rw [forN]; (first | rw [if_pos (show restP (vw 1 I) h g i from ⟨h71, h96⟩)] | rw [if_neg (fun q : restP (vw 1 I) h g i => q.2 h96)] | rw [if_neg (fun q : restP (vw 1 I) h g i => q.1 h71)]); first | done | rfl)) (lI1 (by first | with_reducible rfl | (show _ = forN _ _ _; rw [forN]; (first | rw [if_pos (show restP (vw 1 I) h g i from ⟨h71, h96⟩)] | rw [if_neg (fun q : restP (vw 1 I) h g i => q.2 h96)] | rw [if_neg (fun q : restP (vw 1 I) h g i => q.1 h71)]); first | done | rfl)) (lC1 (lC1 rfl))))))) rfl (by first | with_reducible rfl | (simp only [forN, *, ↓reduceIte, not_true_eq_false, not_false_eq_true, and_self, and_true, true_and, and_false, false_and]; done) | rfl | (simp_all [forN]; done))
          · intro h96
            refine wp_iload3 (pc' := 100) rfl rfl ?_
            refine wp_iconst (v := nI 1) (pc' := 101) rfl rfl rfl ?_
            refine wp_iload4 (pc' := 103) rfl rfl ?_
            refine wp_ishl (pc' := 104) rfl rfl ?_
            refine wp_ior (pc' := 105) rfl rfl ?_
            refine wp_istore3 (pc' := 106) rfl (by first | rfl | assumption) rfl ?_
            first | refine wp_iinc4 (w := nI 1) (pc' := 109) rfl rfl rfl (by with_reducible exact nI_add _ _) rfl ?_ | refine wp_iinc4 (w := nI 1) (pc' := 109) rfl rfl rfl rfl rfl ?_
            refine wp_goto rfl ?_
            exact WP.cg (ih (i + 1) _ _ (by omega) (by first | rfl | assumption) (by first | rfl | assumption)) (lC1 (lI1 (by first | with_reducible rfl | (show _ = forN _ _ _; rw [forN]; (first | rw [if_pos (show restP (vw 1 I) h g i from ⟨h71, h96⟩)] | rw [if_neg (fun q : restP (vw 1 I) h g i => q.2 h96)] | rw [if_neg (fun q : restP (vw 1 I) h g i => q.1 h71)]); first | done | rfl)) (lI1 (by first | with_reducible rfl | (show _ = forN _ _ _; rw [forN]; (first | rw [if_pos (show restP (vw 1 I) h g i from ⟨h71, h96⟩)] | rw [if_neg (fun q : restP (vw 1 I) h g i => q.2 h96)] | rw [if_neg (fun q : restP (vw 1 I) h g i => q.1 h71)]); first | done | rfl)) (lI1 (by first | with_reducible rfl | (show _ = forN _ _ _; rw [forN]; (first | rw [if_pos (show restP (vw 1 I) h g i from ⟨h71, h96⟩)] | rw [if_neg (fun q : restP (vw 1 I) h g i => q.2 h96)] | rw [if_neg (fun q : restP (vw 1 I) h g i => q.1 h71)]); first | done | rfl)) (lI1 (by first | with_reducible rfl | (show _ = forN _ _ _; rw [forN]; (first | rw [if_pos (show restP (vw 1 I) h g i from ⟨h71, h96⟩)] | rw [if_neg (fun q : restP (vw 1 I) h g i => q.2 h96)] | rw [if_neg (fun q : restP (vw 1 I) h g i => q.1 h71)]); first | done | rfl)) (lC1 (lC1 rfl))))))) rfl (by first | with_reducible rfl | (simp only [forN, *, ↓reduceIte, not_true_eq_false, not_false_eq_true, and_self, and_true, true_and, and_false, false_and]; done) | rfl | (simp_all [forN]; done))
    exact WP.cg (lp31 (4 - (0)) (0) _ _ (by omega) (by first | rfl | assumption) (by first | rfl | assumption)) (lC1 (lI1 (by rfl) (lI1 (by rfl) (lI1 (by rfl) (lI1 (by rfl) (lC1 (lC1 rfl))))))) rfl (by first | with_reducible rfl | (simp only [forN, *, ↓reduceIte, not_true_eq_false, not_false_eq_true, and_self, and_true, true_and, and_false, false_and]; done) | rfl | (simp_all [forN]; done))
  · intro h12
    refine wp_raise (pc := 15) rfl rfl rfl rfl rfl rfl rfl rfl rfl (by decide) (by decide) (by omega) (by omega) rfl ?_
    exact kkA h g hh hg rfl rfl (by first | assumption)
theorem c_bitCount {d : Nat} {K : Nat → Nat × Nat} {I : Nat → Nat → Int32} {L : Nat → Nat → Int64} {R : Nat → Nat → Option Nat} {n s : Nat} {Q : Lo → Lm → Prop} {x : Int32}  (kk : Q (.inl (some (.int (popC x)))) (K, I, L, R, n, s)) : Ok (d + 1) 63 [.int x] (K, I, L, R, n, s) Q := by
  refine Ok.enter (F := F_63) (ls := [.int x]) rfl rfl ?_
  refine wp_iload0 (pc' := 1) rfl rfl ?_
  refine wp_iload0 (pc' := 2) rfl rfl ?_
  refine wp_iconst (v := nI 1) (pc' := 3) rfl rfl rfl ?_
  refine wp_iushr (pc' := 4) rfl rfl ?_
  refine wp_pool (v := .int (nI 1431655765)) (pc' := 7) rfl rfl rfl rfl rfl ?_
  refine wp_iand (pc' := 8) rfl rfl ?_
  first | refine wp_isubN (pc' := 9) rfl (by with_reducible rfl) (by with_reducible rfl) (by omega) rfl ?_ | refine wp_isub (pc' := 9) rfl rfl ?_
  refine wp_istore0 (pc' := 10) rfl rfl ?_
  refine wp_iload0 (pc' := 11) rfl rfl ?_
  refine wp_pool (v := .int (nI 858993459)) (pc' := 14) rfl rfl rfl rfl rfl ?_
  refine wp_iand (pc' := 15) rfl rfl ?_
  refine wp_iload0 (pc' := 16) rfl rfl ?_
  refine wp_iconst (v := nI 2) (pc' := 17) rfl rfl rfl ?_
  refine wp_iushr (pc' := 18) rfl rfl ?_
  refine wp_pool (v := .int (nI 858993459)) (pc' := 21) rfl rfl rfl rfl rfl ?_
  refine wp_iand (pc' := 22) rfl rfl ?_
  first | refine wp_iaddN (pc' := 23) rfl (by with_reducible rfl) (by with_reducible rfl) rfl ?_ | refine wp_iadd (pc' := 23) rfl rfl ?_
  refine wp_istore0 (pc' := 24) rfl rfl ?_
  refine wp_iload0 (pc' := 25) rfl rfl ?_
  refine wp_iload0 (pc' := 26) rfl rfl ?_
  refine wp_iconst (v := nI 4) (pc' := 27) rfl rfl rfl ?_
  refine wp_iushr (pc' := 28) rfl rfl ?_
  first | refine wp_iaddN (pc' := 29) rfl (by with_reducible rfl) (by with_reducible rfl) rfl ?_ | refine wp_iadd (pc' := 29) rfl rfl ?_
  refine wp_pool (v := .int (nI 252645135)) (pc' := 32) rfl rfl rfl rfl rfl ?_
  refine wp_iand (pc' := 33) rfl rfl ?_
  refine wp_istore0 (pc' := 34) rfl rfl ?_
  refine wp_iload0 (pc' := 35) rfl rfl ?_
  refine wp_iload0 (pc' := 36) rfl rfl ?_
  refine wp_bipush (v := nI 8) (pc' := 38) rfl rfl rfl ?_
  refine wp_iushr (pc' := 39) rfl rfl ?_
  first | refine wp_iaddN (pc' := 40) rfl (by with_reducible rfl) (by with_reducible rfl) rfl ?_ | refine wp_iadd (pc' := 40) rfl rfl ?_
  refine wp_istore0 (pc' := 41) rfl rfl ?_
  refine wp_iload0 (pc' := 42) rfl rfl ?_
  refine wp_iload0 (pc' := 43) rfl rfl ?_
  refine wp_bipush (v := nI 16) (pc' := 45) rfl rfl rfl ?_
  refine wp_iushr (pc' := 46) rfl rfl ?_
  first | refine wp_iaddN (pc' := 47) rfl (by with_reducible rfl) (by with_reducible rfl) rfl ?_ | refine wp_iadd (pc' := 47) rfl rfl ?_
  refine wp_istore0 (pc' := 48) rfl rfl ?_
  refine wp_iload0 (pc' := 49) rfl rfl ?_
  refine wp_bipush (v := nI 63) (pc' := 51) rfl rfl rfl ?_
  refine wp_iand (pc' := 52) rfl rfl ?_
  refine wp_iret rfl rfl rfl ?_
  exact kk
theorem c_power {d : Nat} {K : Nat → Nat × Nat} {I : Nat → Nat → Int32} {L : Nat → Nat → Int64} {R : Nat → Nat → Option Nat} {n s : Nat} {Q : Lo → Lm → Prop} {x : Int64} {k : Nat} (hk : k < 1000) (kk : Q (.inl (some (.long (powL x k)))) (K, I, L, R, n, s)) : Ok (d + 1) 195 [.long x, .int (nI k)] (K, I, L, R, n, s) Q := by
  refine Ok.enter (F := F_195) (ls := [.long x, lDead, .int (nI k), lDead, lDead, lDead]) rfl rfl ?_
  refine wp_lconst (v := 1) (pc' := 1) rfl rfl rfl ?_
  refine wp_lstore3 (pc' := 2) rfl (by first | rfl | assumption) rfl ?_
  refine wp_iconst (v := nI 0) (pc' := 3) rfl rfl rfl ?_
  refine wp_istore5 (pc' := 5) rfl (by first | rfl | assumption) rfl ?_
  have lp5 : ∀ r (i : Nat), i + r = k → WP d F_195 5 [.long x, lDead, .int (nI k), .long (powL x i), lDead, .int (nI i)] [] (K, I, L, R, n, s) Q := by
    intro r; induction r with
    | zero =>
      intro i hi 
      have hi2 : i = k := by omega
      subst hi2
      refine wp_iload5 (pc' := 7) rfl rfl ?_
      refine wp_iload2 (pc' := 8) rfl rfl ?_
      refine wp_icmpgeT rfl (nI_nlt (by omega) (by omega)) ?_
      refine wp_lload3 (pc' := 22) rfl rfl ?_
      refine wp_lret rfl rfl ?_
      exact kk
    | succ r ih =>
      intro i hi 
      have hlt : i < k := by omega
      refine wp_iload5 (pc' := 7) rfl rfl ?_
      refine wp_iload2 (pc' := 8) rfl rfl ?_
      refine wp_icmpgeF (pc' := 11) rfl (nI_lt (by omega) (by omega)) rfl ?_
      refine wp_lload3 (pc' := 12) rfl rfl ?_
      refine wp_lload0 (pc' := 13) rfl rfl ?_
      refine wp_lmul (pc' := 14) rfl rfl ?_
      refine wp_lstore3 (pc' := 15) rfl (by first | rfl | assumption) rfl ?_
      first | refine wp_iinc5 (w := nI 1) (pc' := 18) rfl rfl rfl (by with_reducible exact nI_add _ _) rfl ?_ | refine wp_iinc5 (w := nI 1) (pc' := 18) rfl rfl rfl rfl rfl ?_
      refine wp_goto rfl ?_
      exact WP.cg (ih (i + 1) (by omega)) (lL1 (by rfl) (lC1 (lI1 (by rfl) (lL1 (by rfl) (lC1 (lI1 (by rfl) rfl)))))) rfl (by first | with_reducible rfl | (simp only [forN, *, ↓reduceIte, not_true_eq_false, not_false_eq_true, and_self, and_true, true_and, and_false, false_and]; done) | rfl | (simp_all [forN]; done))
  exact WP.cg (lp5 (k - (0)) (0) (by omega)) (lL1 (by rfl) (lC1 (lI1 (by rfl) (lL1 (by rfl) (lC1 (lI1 (by rfl) rfl)))))) rfl (by first | with_reducible rfl | (simp only [forN, *, ↓reduceIte, not_true_eq_false, not_false_eq_true, and_self, and_true, true_and, and_false, false_and]; done) | rfl | (simp_all [forN]; done))
theorem c_odds {d : Nat} {K : Nat → Nat × Nat} {I : Nat → Nat → Int32} {L : Nat → Nat → Int64} {R : Nat → Nat → Option Nat} {n s : Nat} {Q : Lo → Lm → Prop} {x z : Int32} (hT : TK K R n) (hS : TS K L) (hf : n + 1 ≤ lmCells) (hs : s + 6 ≤ lmSlots) (kkE : ¬ ((¬ x < nI 0 ∧ ¬ nI 5 < x) ∧ (¬ z < nI 0 ∧ ¬ nI 5 < z)) → Q (.inr n) (exM 14 (K, I, L, R, n, s))) (kk : ∀ a c, a ≤ 5 → c ≤ 5 → x = nI a → z = nI c → Q (.inl (some (.int (oddV (I 1 13) a c)))) (K, I, L, R, n, s)) : Ok (d + 2) 194 [.ref 0, .int x, .int z] (K, I, L, R, n, s) Q := by
  have hb := TK.s1 hT
  obtain ⟨-, -, hn⟩ := id hT
  refine Ok.enter (F := F_194) (ls := [.ref 0, .int x, .int z, lDead, lDead, lDead, lDead, lDead]) rfl rfl ?_
  refine wp_iload1 (pc' := 1) rfl rfl ?_
  refine wp_iconst (v := nI 0) (pc' := 2) rfl rfl rfl ?_
  refine wp_iconst (v := nI 5) (pc' := 3) rfl rfl rfl ?_
  refine wp_callS3 (pc' := 6) rfl rfl rfl rfl rfl rfl ?_
  refine c_needDays hf hs (fun he => Cont.e rfl (kkE (fun q => he q.1))) (fun g1 g2 => ?_)
  obtain ⟨a, k2, rfl⟩ := days0_of (m := 5) (by decide) g1 g2
  refine Cont.u ?_
  refine wp_iload2 (pc' := 7) rfl rfl ?_
  refine wp_iconst (v := nI 0) (pc' := 8) rfl rfl rfl ?_
  refine wp_iconst (v := nI 5) (pc' := 9) rfl rfl rfl ?_
  refine wp_callS3 (pc' := 12) rfl rfl rfl rfl rfl rfl ?_
  refine c_needDays hf hs (fun he => Cont.e rfl (kkE (fun q => he q.2))) (fun g3 g4 => ?_)
  obtain ⟨c, k4, rfl⟩ := days0_of (m := 5) (by decide) g3 g4
  refine Cont.u ?_
  refine wp_lconst (v := 0) (pc' := 13) rfl rfl rfl ?_
  refine wp_lstore3 (pc' := 14) rfl (by first | rfl | assumption) rfl ?_
  refine wp_lconst (v := 1) (pc' := 15) rfl rfl rfl ?_
  refine wp_lstore5 (pc' := 17) rfl (by first | rfl | assumption) rfl ?_
  refine wp_iconst (v := nI 0) (pc' := 18) rfl rfl rfl ?_
  refine wp_istore7 (pc' := 20) rfl (by first | rfl | assumption) rfl ?_
  have lp20 : ∀ r (i : Nat), i + r = a + 1 → WP (d + 1) F_194 20 [.ref 0, .int (nI a), .int (nI c), .long (oddF (I 1 13) a c i).1, lDead, .long (oddF (I 1 13) a c i).2, lDead, .int (nI i)] [] (K, I, L, R, n, s) Q := by
    intro r; induction r with
    | zero =>
      intro i hi 
      have hi2 : i = a + 1 := by omega
      subst hi2
      refine wp_iload7 (pc' := 22) rfl rfl ?_
      refine wp_iload1 (pc' := 23) rfl rfl ?_
      refine wp_icmpgtT rfl (nI_lt (by omega) (by omega)) ?_
      refine wp_lload3 (pc' := 93) rfl rfl ?_
      refine wp_pool (v := .long (10000)) (pc' := 96) rfl rfl rfl rfl rfl ?_
      refine wp_lmul (pc' := 97) rfl rfl ?_
      refine wp_pool (v := .ref (lmB + 1002)) (pc' := 100) rfl rfl rfl rfl rfl ?_
      refine wp_iload1 (pc' := 101) rfl rfl ?_
      refine wp_lald a (pc' := 102) rfl (hS.1 2 (by decide)) rfl (by omega) (by decide) rfl ?_
      rw [hS.2 2 a (by decide), show (rVl (1000 + 2)).getD a 0 = [1, 100, 10000, 1000000, 100000000, 10000000000].getD a 0 from rfl]
      refine wp_ldiv (pc' := 103) rfl (od_ne k2) rfl ?_
      refine wp_l2i (pc' := 104) rfl rfl ?_
      refine wp_iret rfl rfl rfl ?_
      exact kk a c k2 k4 rfl rfl
    | succ r ih =>
      intro i hi 
      have hlt : i < a + 1 := by omega
      have hsx : oddF (I 1 13) a c (i + 1) = oddS (I 1 13) a c i (oddF (I 1 13) a c i) := rfl
      generalize hp : oddF (I 1 13) a c i = p at hsx ⊢
      refine wp_iload7 (pc' := 22) rfl rfl ?_
      refine wp_iload1 (pc' := 23) rfl rfl ?_
      refine wp_icmpgtF (pc' := 26) rfl (nI_nlt (by omega) (by omega)) rfl ?_
      refine wp_iload7 (pc' := 28) rfl rfl ?_
      refine wp_iload2 (pc' := 29) rfl rfl ?_
      refine wp_icmplt (pc' := 32) rfl rfl ?_ ?_
      · intro h29
        refine wp_lload5 (pc' := 72) rfl rfl ?_
        refine wp_iload1 (pc' := 73) rfl rfl ?_
        refine wp_iload7 (pc' := 75) rfl rfl ?_
        first | refine wp_isubN (pc' := 76) rfl (by with_reducible rfl) (by with_reducible rfl) (by omega) rfl ?_ | refine wp_isub (pc' := 76) rfl rfl ?_
        refine wp_i2l (pc' := 77) rfl rfl ?_
        refine wp_lmul (pc' := 78) rfl rfl ?_
        refine wp_iload7 (pc' := 80) rfl rfl ?_
        refine wp_iconst (v := nI 1) (pc' := 81) rfl rfl rfl ?_
        first | refine wp_iaddN (pc' := 82) rfl (by with_reducible rfl) (by with_reducible rfl) rfl ?_ | refine wp_iadd (pc' := 82) rfl rfl ?_
        refine wp_i2l (pc' := 83) rfl rfl ?_
        refine wp_ldiv (pc' := 84) rfl (l_ne0 (by omega) (by omega)) rfl ?_
        refine wp_lstore5 (pc' := 86) rfl (by first | rfl | assumption) rfl ?_
        first | refine wp_iinc7 (w := nI 1) (pc' := 89) rfl rfl rfl (by with_reducible exact nI_add _ _) rfl ?_ | refine wp_iinc7 (w := nI 1) (pc' := 89) rfl rfl rfl rfl rfl ?_
        refine wp_goto rfl ?_
        exact WP.cg (ih (i + 1) (by omega)) (lC1 (lI1 (by first | with_reducible rfl | (rw [hsx]; simp only [oddS, h29, ↓reduceIte]; done)) (lI1 (by first | with_reducible rfl | (rw [hsx]; simp only [oddS, h29, ↓reduceIte]; done)) (lL1 (by first | with_reducible rfl | (rw [hsx]; simp only [oddS, h29, ↓reduceIte]; done)) (lC1 (lL1 (by first | with_reducible rfl | (rw [hsx]; simp only [oddS, h29, ↓reduceIte]; done)) (lC1 (lI1 (by first | with_reducible rfl | (rw [hsx]; simp only [oddS, h29, ↓reduceIte]; done)) rfl)))))))) rfl (by first | with_reducible rfl | (simp only [forN, *, ↓reduceIte, not_true_eq_false, not_false_eq_true, and_self, and_true, true_and, and_false, false_and]; done) | rfl | (simp_all [forN]; done))
      · intro h29
        refine wp_lload3 (pc' := 33) rfl rfl ?_
        refine wp_lload5 (pc' := 35) rfl rfl ?_
        refine wp_aload0 (pc' := 36) rfl rfl ?_
        refine wp_getRF (pc' := 39) rfl rfl (by first | exact TK.k1 hT rfl | exact TK.kk hT rfl | exact TK.r hT rfl | assumption) (by first | exact TK.k1 hT rfl | exact TK.kk hT rfl | exact TK.r hT rfl | assumption) rfl ?_
        refine wp_getI (pc' := 42) rfl rfl (by first | exact TK.k1 hT rfl | exact TK.kk hT rfl | exact TK.r hT rfl | assumption) rfl ?_
        refine wp_i2l (pc' := 43) rfl rfl ?_
        refine wp_iload7 (pc' := 45) rfl rfl ?_
        refine wp_callS2 (pc' := 48) rfl rfl rfl rfl rfl rfl ?_
        refine c_power (by omega) ?_
        refine Cont.v ?_
        refine wp_lmul (pc' := 49) rfl rfl ?_
        refine wp_bipush (v := nI 100) (pc' := 51) rfl rfl rfl ?_
        refine wp_aload0 (pc' := 52) rfl rfl ?_
        refine wp_getRF (pc' := 55) rfl rfl (by first | exact TK.k1 hT rfl | exact TK.kk hT rfl | exact TK.r hT rfl | assumption) (by first | exact TK.k1 hT rfl | exact TK.kk hT rfl | exact TK.r hT rfl | assumption) rfl ?_
        refine wp_getI (pc' := 58) rfl rfl (by first | exact TK.k1 hT rfl | exact TK.kk hT rfl | exact TK.r hT rfl | assumption) rfl ?_
        first | refine wp_isubN (pc' := 59) rfl (by with_reducible rfl) (by with_reducible rfl) (by omega) rfl ?_ | refine wp_isub (pc' := 59) rfl rfl ?_
        refine wp_i2l (pc' := 60) rfl rfl ?_
        refine wp_iload1 (pc' := 61) rfl rfl ?_
        refine wp_iload7 (pc' := 63) rfl rfl ?_
        first | refine wp_isubN (pc' := 64) rfl (by with_reducible rfl) (by with_reducible rfl) (by omega) rfl ?_ | refine wp_isub (pc' := 64) rfl rfl ?_
        refine wp_callS2 (pc' := 67) rfl rfl rfl rfl rfl rfl ?_
        refine c_power (by omega) ?_
        refine Cont.v ?_
        refine wp_lmul (pc' := 68) rfl rfl ?_
        refine wp_ladd (pc' := 69) rfl rfl ?_
        refine wp_lstore3 (pc' := 70) rfl (by first | rfl | assumption) rfl ?_
        refine wp_lload5 (pc' := 72) rfl rfl ?_
        refine wp_iload1 (pc' := 73) rfl rfl ?_
        refine wp_iload7 (pc' := 75) rfl rfl ?_
        first | refine wp_isubN (pc' := 76) rfl (by with_reducible rfl) (by with_reducible rfl) (by omega) rfl ?_ | refine wp_isub (pc' := 76) rfl rfl ?_
        refine wp_i2l (pc' := 77) rfl rfl ?_
        refine wp_lmul (pc' := 78) rfl rfl ?_
        refine wp_iload7 (pc' := 80) rfl rfl ?_
        refine wp_iconst (v := nI 1) (pc' := 81) rfl rfl rfl ?_
        first | refine wp_iaddN (pc' := 82) rfl (by with_reducible rfl) (by with_reducible rfl) rfl ?_ | refine wp_iadd (pc' := 82) rfl rfl ?_
        refine wp_i2l (pc' := 83) rfl rfl ?_
        refine wp_ldiv (pc' := 84) rfl (l_ne0 (by omega) (by omega)) rfl ?_
        refine wp_lstore5 (pc' := 86) rfl (by first | rfl | assumption) rfl ?_
        first | refine wp_iinc7 (w := nI 1) (pc' := 89) rfl rfl rfl (by with_reducible exact nI_add _ _) rfl ?_ | refine wp_iinc7 (w := nI 1) (pc' := 89) rfl rfl rfl rfl rfl ?_
        refine wp_goto rfl ?_
        exact WP.cg (ih (i + 1) (by omega)) (lC1 (lI1 (by first | with_reducible rfl | (rw [hsx]; simp only [oddS, h29, ↓reduceIte]; done)) (lI1 (by first | with_reducible rfl | (rw [hsx]; simp only [oddS, h29, ↓reduceIte]; done)) (lL1 (by first | with_reducible rfl | (rw [hsx]; simp only [oddS, h29, ↓reduceIte]; done)) (lC1 (lL1 (by first | with_reducible rfl | (rw [hsx]; simp only [oddS, h29, ↓reduceIte]; done)) (lC1 (lI1 (by first | with_reducible rfl | (rw [hsx]; simp only [oddS, h29, ↓reduceIte]; done)) rfl)))))))) rfl (by first | with_reducible rfl | (simp only [forN, *, ↓reduceIte, not_true_eq_false, not_false_eq_true, and_self, and_true, true_and, and_false, false_and]; done) | rfl | (simp_all [forN]; done))
  exact WP.cg (lp20 (a + 1 - (0)) (0) (by omega)) (lC1 (lI1 (by rfl) (lI1 (by rfl) (lL1 (by rfl) (lC1 (lL1 (by rfl) (lC1 (lI1 (by rfl) rfl)))))))) rfl (by first | with_reducible rfl | (simp only [forN, *, ↓reduceIte, not_true_eq_false, not_false_eq_true, and_self, and_true, true_and, and_false, false_and]; done) | rfl | (simp_all [forN]; done))
theorem c_hearth {d : Nat} {K : Nat → Nat × Nat} {I : Nat → Nat → Int32} {L : Nat → Nat → Int64} {R : Nat → Nat → Option Nat} {n s : Nat} {Q : Lo → Lm → Prop} {x y : Int32} (hT : TK K R n) (hf : n + 1 ≤ lmCells) (hs : s + 6 ≤ lmSlots) {H : Nat} (hH : I 1 10 = nI H) (hH6 : H ≤ 6) (kkE : ¬ InR x H → Q (.inr n) (exM 16 (K, I, L, R, n, s))) (kkN : ∀ h, h < H → x = nI h → ¬ InR y 7 → Q (.inr n) (exM 17 (K, I, L, R, n, s))) (kk : ∀ h w, h < H → w < 7 → x = nI h → y = nI w → Q (.inl (some (.int (hearV (vw 1 I) h w)))) (K, I, L, R, n, s)) : Ok (d + 3) 118 [.ref 0, .int x, .int y] (K, I, L, R, n, s) Q := by
  have hb := TK.s1 hT
  obtain ⟨-, -, hn⟩ := id hT
  refine Ok.enter (F := F_118) (ls := [.ref 0, .int x, .int y]) rfl rfl ?_
  refine wp_aload0 (pc' := 1) rfl rfl ?_
  refine wp_iload1 (pc' := 2) rfl rfl ?_
  refine wp_callV2 (pc' := 5) rfl rfl rfl rfl rfl (by first | exact TK.k1 hT rfl | exact TK.kk hT rfl | exact TK.r hT rfl | assumption) rfl rfl ?_
  refine c_needHearth hT hH hH6 hf hs (fun he => Cont.e rfl (kkE he)) (fun h hh hx => ?_)
  subst hx
  refine Cont.u ?_
  refine wp_iload2 (pc' := 6) rfl rfl ?_
  by_cases hs0 : y = nI 0
  · refine wp_sw (tg := 48) rfl (by rw [hs0]; rfl) ?_
    refine wp_aload0 (pc' := 49) rfl rfl ?_
    refine wp_getRF (pc' := 52) rfl rfl (by first | exact TK.k1 hT rfl | exact TK.kk hT rfl | exact TK.r hT rfl | assumption) (by first | exact TK.k1 hT rfl | exact TK.kk hT rfl | exact TK.r hT rfl | assumption) rfl ?_
    refine wp_getRF (pc' := 55) rfl rfl (by first | exact TK.k1 hT rfl | exact TK.kk hT rfl | exact TK.r hT rfl | assumption) (by first | exact TK.k1 hT rfl | exact TK.kk hT rfl | exact TK.r hT rfl | assumption) rfl ?_
    refine wp_iload1 (pc' := 56) rfl rfl ?_
    refine wp_iald _ (pc' := 57) rfl (by first | exact TK.k1 hT rfl | exact TK.kk hT rfl | exact TK.r hT rfl | assumption) (by with_reducible rfl) (by omega) (by first | decide | assumption | omega) rfl ?_
    refine wp_iret rfl rfl rfl ?_
    exact kk h 0 hh (by decide) rfl hs0
  by_cases hs1 : y = nI 1
  · refine wp_sw (tg := 58) rfl (by rw [hs1]; rfl) ?_
    refine wp_aload0 (pc' := 59) rfl rfl ?_
    refine wp_getRF (pc' := 62) rfl rfl (by first | exact TK.k1 hT rfl | exact TK.kk hT rfl | exact TK.r hT rfl | assumption) (by first | exact TK.k1 hT rfl | exact TK.kk hT rfl | exact TK.r hT rfl | assumption) rfl ?_
    refine wp_getRF (pc' := 65) rfl rfl (by first | exact TK.k1 hT rfl | exact TK.kk hT rfl | exact TK.r hT rfl | assumption) (by first | exact TK.k1 hT rfl | exact TK.kk hT rfl | exact TK.r hT rfl | assumption) rfl ?_
    refine wp_iload1 (pc' := 66) rfl rfl ?_
    refine wp_iald _ (pc' := 67) rfl (by first | exact TK.k1 hT rfl | exact TK.kk hT rfl | exact TK.r hT rfl | assumption) (by with_reducible rfl) (by omega) (by first | decide | assumption | omega) rfl ?_
    refine wp_iret rfl rfl rfl ?_
    exact kk h 1 hh (by decide) rfl hs1
  by_cases hs2 : y = nI 2
  · refine wp_sw (tg := 68) rfl (by rw [hs2]; rfl) ?_
    refine wp_aload0 (pc' := 69) rfl rfl ?_
    refine wp_getRF (pc' := 72) rfl rfl (by first | exact TK.k1 hT rfl | exact TK.kk hT rfl | exact TK.r hT rfl | assumption) (by first | exact TK.k1 hT rfl | exact TK.kk hT rfl | exact TK.r hT rfl | assumption) rfl ?_
    refine wp_getRF (pc' := 75) rfl rfl (by first | exact TK.k1 hT rfl | exact TK.kk hT rfl | exact TK.r hT rfl | assumption) (by first | exact TK.k1 hT rfl | exact TK.kk hT rfl | exact TK.r hT rfl | assumption) rfl ?_
    refine wp_iload1 (pc' := 76) rfl rfl ?_
    refine wp_iald _ (pc' := 77) rfl (by first | exact TK.k1 hT rfl | exact TK.kk hT rfl | exact TK.r hT rfl | assumption) (by with_reducible rfl) (by omega) (by first | decide | assumption | omega) rfl ?_
    refine wp_iret rfl rfl rfl ?_
    exact kk h 2 hh (by decide) rfl hs2
  by_cases hs3 : y = nI 3
  · refine wp_sw (tg := 78) rfl (by rw [hs3]; rfl) ?_
    refine wp_aload0 (pc' := 79) rfl rfl ?_
    refine wp_getRF (pc' := 82) rfl rfl (by first | exact TK.k1 hT rfl | exact TK.kk hT rfl | exact TK.r hT rfl | assumption) (by first | exact TK.k1 hT rfl | exact TK.kk hT rfl | exact TK.r hT rfl | assumption) rfl ?_
    refine wp_getRF (pc' := 85) rfl rfl (by first | exact TK.k1 hT rfl | exact TK.kk hT rfl | exact TK.r hT rfl | assumption) (by first | exact TK.k1 hT rfl | exact TK.kk hT rfl | exact TK.r hT rfl | assumption) rfl ?_
    refine wp_iload1 (pc' := 86) rfl rfl ?_
    refine wp_iald _ (pc' := 87) rfl (by first | exact TK.k1 hT rfl | exact TK.kk hT rfl | exact TK.r hT rfl | assumption) (by with_reducible rfl) (by omega) (by first | decide | assumption | omega) rfl ?_
    refine wp_iret rfl rfl rfl ?_
    exact kk h 3 hh (by decide) rfl hs3
  by_cases hs4 : y = nI 4
  · refine wp_sw (tg := 88) rfl (by rw [hs4]; rfl) ?_
    refine wp_aload0 (pc' := 89) rfl rfl ?_
    refine wp_getRF (pc' := 92) rfl rfl (by first | exact TK.k1 hT rfl | exact TK.kk hT rfl | exact TK.r hT rfl | assumption) (by first | exact TK.k1 hT rfl | exact TK.kk hT rfl | exact TK.r hT rfl | assumption) rfl ?_
    refine wp_iload1 (pc' := 93) rfl rfl ?_
    refine wp_callV2 (pc' := 96) rfl rfl rfl rfl rfl (by first | exact TK.k1 hT rfl | exact TK.kk hT rfl | exact TK.r hT rfl | assumption) rfl rfl ?_
    refine c_lacks hb (by omega) ?_
    refine Cont.v ?_
    refine wp_iret rfl rfl rfl ?_
    exact kk h 4 hh (by decide) rfl hs4
  by_cases hs5 : y = nI 5
  · refine wp_sw (tg := 97) rfl (by rw [hs5]; rfl) ?_
    refine wp_aload0 (pc' := 98) rfl rfl ?_
    refine wp_getRF (pc' := 101) rfl rfl (by first | exact TK.k1 hT rfl | exact TK.kk hT rfl | exact TK.r hT rfl | assumption) (by first | exact TK.k1 hT rfl | exact TK.kk hT rfl | exact TK.r hT rfl | assumption) rfl ?_
    refine wp_iload1 (pc' := 102) rfl rfl ?_
    refine wp_callV2 (pc' := 105) rfl rfl rfl rfl rfl (by first | exact TK.k1 hT rfl | exact TK.kk hT rfl | exact TK.r hT rfl | assumption) rfl rfl ?_
    refine c_firstOpen hb (by omega) ?_
    refine Cont.v ?_
    refine wp_iret rfl rfl rfl ?_
    exact kk h 5 hh (by decide) rfl hs5
  by_cases hs6 : y = nI 6
  · refine wp_sw (tg := 106) rfl (by rw [hs6]; rfl) ?_
    refine wp_aload0 (pc' := 107) rfl rfl ?_
    refine wp_iload1 (pc' := 108) rfl rfl ?_
    refine wp_callV2 (pc' := 111) rfl rfl rfl rfl rfl (by first | exact TK.k1 hT rfl | exact TK.kk hT rfl | exact TK.r hT rfl | assumption) rfl rfl ?_
    refine c_share hT (by omega) ?_
    refine Cont.v ?_
    refine wp_iret rfl rfl rfl ?_
    exact kk h 6 hh (by decide) rfl hs6
  refine wp_sw (tg := 112) rfl (sw_def (fun k hk => match k, hk with | 0, _ => hs0 | 1, _ => hs1 | 2, _ => hs2 | 3, _ => hs3 | 4, _ => hs4 | 5, _ => hs5 | 6, _ => hs6 | k + 7, h => absurd h (show ¬ k + 7 < 7 by omega))) ?_
  refine wp_raise (pc := 112) rfl rfl rfl rfl rfl rfl rfl rfl rfl (by decide) (by decide) (by omega) (by omega) rfl ?_
  exact kkN h hh rfl (InR_sw (fun k hk => match k, hk with | 0, _ => hs0 | 1, _ => hs1 | 2, _ => hs2 | 3, _ => hs3 | 4, _ => hs4 | 5, _ => hs5 | 6, _ => hs6 | k + 7, h => absurd h (by omega)))
theorem c_count_n {d : Nat} {K : Nat → Nat × Nat} {I : Nat → Nat → Int32} {L : Nat → Nat → Int64} {R : Nat → Nat → Option Nat} {n s : Nat} {Q : Lo → Lm → Prop} {x : Int32} {A la : Nat} (hT : TK K R n) (hr : I 1 14 = 0 ∨ I 1 14 = 1) (hA : I 0 5 = nI A) (hlw : R 1 18 = none) (kkN : ¬ InR x 13 → Q (.inl (some (.int (-1)))) (K, I, L, R, n, s)) (kk : ∀ w, w < 13 → x = nI w → Q (.inl (some (.int (countV (vw 1 I) A (-1) w)))) (K, I, L, R, n, s)) : Ok (d + 2) 61 [.ref 0, .int x] (K, I, L, R, n, s) Q := by
  have hb := TK.s1 hT
  obtain ⟨-, -, hn⟩ := id hT
  refine Ok.enter (F := F_61) (ls := [.ref 0, .int x]) rfl rfl ?_
  refine wp_iload1 (pc' := 1) rfl rfl ?_
  by_cases hs0 : x = nI 0
  · refine wp_sw (tg := 68) rfl (by rw [hs0]; rfl) ?_
    refine wp_aload0 (pc' := 69) rfl rfl ?_
    refine wp_getRF (pc' := 72) rfl rfl (by first | exact TK.k1 hT rfl | exact TK.kk hT rfl | exact TK.r hT rfl | assumption) (by first | exact TK.k1 hT rfl | exact TK.kk hT rfl | exact TK.r hT rfl | assumption) rfl ?_
    refine wp_getI (pc' := 75) rfl rfl (by first | exact TK.k1 hT rfl | exact TK.kk hT rfl | exact TK.r hT rfl | assumption) rfl ?_
    refine wp_iret rfl rfl rfl ?_
    exact kk 0 (by decide) hs0
  by_cases hs1 : x = nI 1
  · refine wp_sw (tg := 76) rfl (by rw [hs1]; rfl) ?_
    refine wp_aload0 (pc' := 77) rfl rfl ?_
    refine wp_getRF (pc' := 80) rfl rfl (by first | exact TK.k1 hT rfl | exact TK.kk hT rfl | exact TK.r hT rfl | assumption) (by first | exact TK.k1 hT rfl | exact TK.kk hT rfl | exact TK.r hT rfl | assumption) rfl ?_
    refine wp_getI (pc' := 83) rfl rfl (by first | exact TK.k1 hT rfl | exact TK.kk hT rfl | exact TK.r hT rfl | assumption) rfl ?_
    refine wp_iret rfl rfl rfl ?_
    exact kk 1 (by decide) hs1
  by_cases hs2 : x = nI 2
  · refine wp_sw (tg := 84) rfl (by rw [hs2]; rfl) ?_
    refine wp_aload0 (pc' := 85) rfl rfl ?_
    refine wp_getRF (pc' := 88) rfl rfl (by first | exact TK.k1 hT rfl | exact TK.kk hT rfl | exact TK.r hT rfl | assumption) (by first | exact TK.k1 hT rfl | exact TK.kk hT rfl | exact TK.r hT rfl | assumption) rfl ?_
    refine wp_getRN (pc' := 91) rfl rfl (TK.k1 hT rfl) hlw rfl ?_
    refine wp_ifnonnullN (pc' := 94) rfl rfl ?_
    refine wp_iconst (v := (-1)) (pc' := 95) rfl rfl rfl ?_
    refine wp_goto rfl ?_
    refine wp_iret rfl rfl rfl ?_
    exact kk 2 (by decide) hs2
  by_cases hs3 : x = nI 3
  · refine wp_sw (tg := 109) rfl (by rw [hs3]; rfl) ?_
    refine wp_aload0 (pc' := 110) rfl rfl ?_
    refine wp_getRF (pc' := 113) rfl rfl (by first | exact TK.k1 hT rfl | exact TK.kk hT rfl | exact TK.r hT rfl | assumption) (by first | exact TK.k1 hT rfl | exact TK.kk hT rfl | exact TK.r hT rfl | assumption) rfl ?_
    refine wp_getI (pc' := 116) rfl rfl (by first | exact TK.k1 hT rfl | exact TK.kk hT rfl | exact TK.r hT rfl | assumption) rfl ?_
    refine wp_iret rfl rfl rfl ?_
    exact kk 3 (by decide) hs3
  by_cases hs4 : x = nI 4
  · refine wp_sw (tg := 117) rfl (by rw [hs4]; rfl) ?_
    refine wp_aload0 (pc' := 118) rfl rfl ?_
    refine wp_getRF (pc' := 121) rfl rfl (by first | exact TK.k1 hT rfl | exact TK.kk hT rfl | exact TK.r hT rfl | assumption) (by first | exact TK.k1 hT rfl | exact TK.kk hT rfl | exact TK.r hT rfl | assumption) rfl ?_
    refine wp_getI (pc' := 124) rfl rfl (by first | exact TK.k1 hT rfl | exact TK.kk hT rfl | exact TK.r hT rfl | assumption) rfl ?_
    refine wp_iret rfl rfl rfl ?_
    exact kk 4 (by decide) hs4
  by_cases hs5 : x = nI 5
  · refine wp_sw (tg := 125) rfl (by rw [hs5]; rfl) ?_
    refine wp_aload0 (pc' := 126) rfl rfl ?_
    refine wp_getRF (pc' := 129) rfl rfl (by first | exact TK.k1 hT rfl | exact TK.kk hT rfl | exact TK.r hT rfl | assumption) (by first | exact TK.k1 hT rfl | exact TK.kk hT rfl | exact TK.r hT rfl | assumption) rfl ?_
    refine wp_getZ (pc' := 132) rfl rfl (by first | exact TK.k1 hT rfl | exact TK.kk hT rfl | exact TK.r hT rfl | assumption) rfl ?_
    refine wp_callS1 (pc' := 135) rfl rfl rfl rfl rfl rfl ?_
    refine c_oneIfV hr ?_
    refine Cont.v ?_
    refine wp_iret rfl rfl rfl ?_
    exact kk 5 (by decide) hs5
  by_cases hs6 : x = nI 6
  · refine wp_sw (tg := 136) rfl (by rw [hs6]; rfl) ?_
    refine wp_aload0 (pc' := 137) rfl rfl ?_
    refine wp_getRF (pc' := 140) rfl rfl (by first | exact TK.k1 hT rfl | exact TK.kk hT rfl | exact TK.r hT rfl | assumption) (by first | exact TK.k1 hT rfl | exact TK.kk hT rfl | exact TK.r hT rfl | assumption) rfl ?_
    refine wp_getI (pc' := 143) rfl rfl (by first | exact TK.k1 hT rfl | exact TK.kk hT rfl | exact TK.r hT rfl | assumption) rfl ?_
    refine wp_iret rfl rfl rfl ?_
    exact kk 6 (by decide) hs6
  by_cases hs7 : x = nI 7
  · refine wp_sw (tg := 144) rfl (by rw [hs7]; rfl) ?_
    refine wp_aload0 (pc' := 145) rfl rfl ?_
    refine wp_getRF (pc' := 148) rfl rfl (by first | exact TK.k1 hT rfl | exact TK.kk hT rfl | exact TK.r hT rfl | assumption) (by first | exact TK.k1 hT rfl | exact TK.kk hT rfl | exact TK.r hT rfl | assumption) rfl ?_
    refine wp_getRF (pc' := 151) rfl rfl (by first | exact TK.k1 hT rfl | exact TK.kk hT rfl | exact TK.r hT rfl | assumption) (by first | exact TK.k1 hT rfl | exact TK.kk hT rfl | exact TK.r hT rfl | assumption) rfl ?_
    refine wp_callS1 (pc' := 154) rfl rfl rfl rfl rfl rfl ?_
    refine c_sum (by first | exact TK.k1 hT rfl | exact TK.kk hT rfl | exact TK.r hT rfl | assumption) (by decide) ?_
    refine Cont.v ?_
    refine wp_iret rfl rfl rfl ?_
    exact kk 7 (by decide) hs7
  by_cases hs8 : x = nI 8
  · refine wp_sw (tg := 155) rfl (by rw [hs8]; rfl) ?_
    refine wp_aload0 (pc' := 156) rfl rfl ?_
    refine wp_getRF (pc' := 159) rfl rfl (by first | exact TK.k1 hT rfl | exact TK.kk hT rfl | exact TK.r hT rfl | assumption) (by first | exact TK.k1 hT rfl | exact TK.kk hT rfl | exact TK.r hT rfl | assumption) rfl ?_
    refine wp_getRF (pc' := 162) rfl rfl (by first | exact TK.k1 hT rfl | exact TK.kk hT rfl | exact TK.r hT rfl | assumption) (by first | exact TK.k1 hT rfl | exact TK.kk hT rfl | exact TK.r hT rfl | assumption) rfl ?_
    refine wp_callS1 (pc' := 165) rfl rfl rfl rfl rfl rfl ?_
    refine c_sum (by first | exact TK.k1 hT rfl | exact TK.kk hT rfl | exact TK.r hT rfl | assumption) (by decide) ?_
    refine Cont.v ?_
    refine wp_iret rfl rfl rfl ?_
    exact kk 8 (by decide) hs8
  by_cases hs9 : x = nI 9
  · refine wp_sw (tg := 166) rfl (by rw [hs9]; rfl) ?_
    refine wp_aload0 (pc' := 167) rfl rfl ?_
    refine wp_getRF (pc' := 170) rfl rfl (by first | exact TK.k1 hT rfl | exact TK.kk hT rfl | exact TK.r hT rfl | assumption) (by first | exact TK.k1 hT rfl | exact TK.kk hT rfl | exact TK.r hT rfl | assumption) rfl ?_
    refine wp_getRF (pc' := 173) rfl rfl (by first | exact TK.k1 hT rfl | exact TK.kk hT rfl | exact TK.r hT rfl | assumption) (by first | exact TK.k1 hT rfl | exact TK.kk hT rfl | exact TK.r hT rfl | assumption) rfl ?_
    refine wp_callS1 (pc' := 176) rfl rfl rfl rfl rfl rfl ?_
    refine c_sum (by first | exact TK.k1 hT rfl | exact TK.kk hT rfl | exact TK.r hT rfl | assumption) (by decide) ?_
    refine Cont.v ?_
    refine wp_iret rfl rfl rfl ?_
    exact kk 9 (by decide) hs9
  by_cases hs10 : x = nI 10
  · refine wp_sw (tg := 177) rfl (by rw [hs10]; rfl) ?_
    refine wp_aload0 (pc' := 178) rfl rfl ?_
    refine wp_getRF (pc' := 181) rfl rfl (by first | exact TK.k1 hT rfl | exact TK.kk hT rfl | exact TK.r hT rfl | assumption) (by first | exact TK.k1 hT rfl | exact TK.kk hT rfl | exact TK.r hT rfl | assumption) rfl ?_
    refine wp_getI (pc' := 184) rfl rfl (by first | exact TK.k1 hT rfl | exact TK.kk hT rfl | exact TK.r hT rfl | assumption) rfl ?_
    refine wp_callS1 (pc' := 187) rfl rfl rfl rfl rfl rfl ?_
    refine c_bitCount ?_
    refine Cont.v ?_
    refine wp_iret rfl rfl rfl ?_
    exact kk 10 (by decide) hs10
  by_cases hs11 : x = nI 11
  · refine wp_sw (tg := 188) rfl (by rw [hs11]; rfl) ?_
    refine wp_aload0 (pc' := 189) rfl rfl ?_
    refine wp_getRF (pc' := 192) rfl rfl (by first | exact TK.k1 hT rfl | exact TK.kk hT rfl | exact TK.r hT rfl | assumption) (by first | exact TK.k1 hT rfl | exact TK.kk hT rfl | exact TK.r hT rfl | assumption) rfl ?_
    refine wp_getRF (pc' := 195) rfl rfl (by first | exact TK.k1 hT rfl | exact TK.kk hT rfl | exact TK.r hT rfl | assumption) (by first | exact TK.k1 hT rfl | exact TK.kk hT rfl | exact TK.r hT rfl | assumption) rfl ?_
    refine wp_getI (pc' := 198) rfl rfl (by first | exact TK.k1 hT rfl | exact TK.kk hT rfl | exact TK.r hT rfl | assumption) rfl ?_
    refine wp_iret rfl rfl rfl ?_
    exact kk 11 (by decide) hs11
  by_cases hs12 : x = nI 12
  · refine wp_sw (tg := 199) rfl (by rw [hs12]; rfl) ?_
    refine wp_aload0 (pc' := 200) rfl rfl ?_
    refine wp_getI (pc' := 203) rfl rfl (by first | exact TK.k1 hT rfl | exact TK.kk hT rfl | exact TK.r hT rfl | assumption) rfl ?_
    refine wp_iret rfl rfl rfl ?_
    exact Qv (kk 12 (by decide) hs12) hA rfl
  refine wp_sw (tg := 204) rfl (sw_def (fun k hk => match k, hk with | 0, _ => hs0 | 1, _ => hs1 | 2, _ => hs2 | 3, _ => hs3 | 4, _ => hs4 | 5, _ => hs5 | 6, _ => hs6 | 7, _ => hs7 | 8, _ => hs8 | 9, _ => hs9 | 10, _ => hs10 | 11, _ => hs11 | 12, _ => hs12 | k + 13, h => absurd h (show ¬ k + 13 < 13 by omega))) ?_
  refine wp_iconst (v := (-1)) (pc' := 205) rfl rfl rfl ?_
  refine wp_iret rfl rfl rfl ?_
  exact kkN (InR_sw (fun k hk => match k, hk with | 0, _ => hs0 | 1, _ => hs1 | 2, _ => hs2 | 3, _ => hs3 | 4, _ => hs4 | 5, _ => hs5 | 6, _ => hs6 | 7, _ => hs7 | 8, _ => hs8 | 9, _ => hs9 | 10, _ => hs10 | 11, _ => hs11 | 12, _ => hs12 | k + 13, h => absurd h (by omega)))
theorem c_count_s {d : Nat} {K : Nat → Nat × Nat} {I : Nat → Nat → Int32} {L : Nat → Nat → Int64} {R : Nat → Nat → Option Nat} {n s : Nat} {Q : Lo → Lm → Prop} {x : Int32} {A la : Nat} (hT : TK K R n) (hr : I 1 14 = 0 ∨ I 1 14 = 1) (hA : I 0 5 = nI A) (hlw : R 1 18 = some la) (hkl : (K la).1 = 7) (kkN : ¬ InR x 13 → Q (.inl (some (.int (-1)))) (K, I, L, R, n, s)) (kk : ∀ w, w < 13 → x = nI w → Q (.inl (some (.int (countV (vw 1 I) A (I la 0) w)))) (K, I, L, R, n, s)) : Ok (d + 2) 61 [.ref 0, .int x] (K, I, L, R, n, s) Q := by
  have hb := TK.s1 hT
  obtain ⟨-, -, hn⟩ := id hT
  refine Ok.enter (F := F_61) (ls := [.ref 0, .int x]) rfl rfl ?_
  refine wp_iload1 (pc' := 1) rfl rfl ?_
  by_cases hs0 : x = nI 0
  · refine wp_sw (tg := 68) rfl (by rw [hs0]; rfl) ?_
    refine wp_aload0 (pc' := 69) rfl rfl ?_
    refine wp_getRF (pc' := 72) rfl rfl (by first | exact TK.k1 hT rfl | exact TK.kk hT rfl | exact TK.r hT rfl | assumption) (by first | exact TK.k1 hT rfl | exact TK.kk hT rfl | exact TK.r hT rfl | assumption) rfl ?_
    refine wp_getI (pc' := 75) rfl rfl (by first | exact TK.k1 hT rfl | exact TK.kk hT rfl | exact TK.r hT rfl | assumption) rfl ?_
    refine wp_iret rfl rfl rfl ?_
    exact kk 0 (by decide) hs0
  by_cases hs1 : x = nI 1
  · refine wp_sw (tg := 76) rfl (by rw [hs1]; rfl) ?_
    refine wp_aload0 (pc' := 77) rfl rfl ?_
    refine wp_getRF (pc' := 80) rfl rfl (by first | exact TK.k1 hT rfl | exact TK.kk hT rfl | exact TK.r hT rfl | assumption) (by first | exact TK.k1 hT rfl | exact TK.kk hT rfl | exact TK.r hT rfl | assumption) rfl ?_
    refine wp_getI (pc' := 83) rfl rfl (by first | exact TK.k1 hT rfl | exact TK.kk hT rfl | exact TK.r hT rfl | assumption) rfl ?_
    refine wp_iret rfl rfl rfl ?_
    exact kk 1 (by decide) hs1
  by_cases hs2 : x = nI 2
  · refine wp_sw (tg := 84) rfl (by rw [hs2]; rfl) ?_
    refine wp_aload0 (pc' := 85) rfl rfl ?_
    refine wp_getRF (pc' := 88) rfl rfl (by first | exact TK.k1 hT rfl | exact TK.kk hT rfl | exact TK.r hT rfl | assumption) (by first | exact TK.k1 hT rfl | exact TK.kk hT rfl | exact TK.r hT rfl | assumption) rfl ?_
    refine wp_getR (pc' := 91) rfl rfl (TK.k1 hT rfl) hlw rfl ?_
    refine wp_ifnonnullR rfl ?_
    refine wp_aload0 (pc' := 99) rfl rfl ?_
    refine wp_getRF (pc' := 102) rfl rfl (by first | exact TK.k1 hT rfl | exact TK.kk hT rfl | exact TK.r hT rfl | assumption) (by first | exact TK.k1 hT rfl | exact TK.kk hT rfl | exact TK.r hT rfl | assumption) rfl ?_
    refine wp_getR (pc' := 105) rfl rfl (TK.k1 hT rfl) hlw rfl ?_
    refine wp_getIF (pc' := 108) rfl rfl hkl rfl ?_
    refine wp_iret rfl rfl rfl ?_
    exact kk 2 (by decide) hs2
  by_cases hs3 : x = nI 3
  · refine wp_sw (tg := 109) rfl (by rw [hs3]; rfl) ?_
    refine wp_aload0 (pc' := 110) rfl rfl ?_
    refine wp_getRF (pc' := 113) rfl rfl (by first | exact TK.k1 hT rfl | exact TK.kk hT rfl | exact TK.r hT rfl | assumption) (by first | exact TK.k1 hT rfl | exact TK.kk hT rfl | exact TK.r hT rfl | assumption) rfl ?_
    refine wp_getI (pc' := 116) rfl rfl (by first | exact TK.k1 hT rfl | exact TK.kk hT rfl | exact TK.r hT rfl | assumption) rfl ?_
    refine wp_iret rfl rfl rfl ?_
    exact kk 3 (by decide) hs3
  by_cases hs4 : x = nI 4
  · refine wp_sw (tg := 117) rfl (by rw [hs4]; rfl) ?_
    refine wp_aload0 (pc' := 118) rfl rfl ?_
    refine wp_getRF (pc' := 121) rfl rfl (by first | exact TK.k1 hT rfl | exact TK.kk hT rfl | exact TK.r hT rfl | assumption) (by first | exact TK.k1 hT rfl | exact TK.kk hT rfl | exact TK.r hT rfl | assumption) rfl ?_
    refine wp_getI (pc' := 124) rfl rfl (by first | exact TK.k1 hT rfl | exact TK.kk hT rfl | exact TK.r hT rfl | assumption) rfl ?_
    refine wp_iret rfl rfl rfl ?_
    exact kk 4 (by decide) hs4
  by_cases hs5 : x = nI 5
  · refine wp_sw (tg := 125) rfl (by rw [hs5]; rfl) ?_
    refine wp_aload0 (pc' := 126) rfl rfl ?_
    refine wp_getRF (pc' := 129) rfl rfl (by first | exact TK.k1 hT rfl | exact TK.kk hT rfl | exact TK.r hT rfl | assumption) (by first | exact TK.k1 hT rfl | exact TK.kk hT rfl | exact TK.r hT rfl | assumption) rfl ?_
    refine wp_getZ (pc' := 132) rfl rfl (by first | exact TK.k1 hT rfl | exact TK.kk hT rfl | exact TK.r hT rfl | assumption) rfl ?_
    refine wp_callS1 (pc' := 135) rfl rfl rfl rfl rfl rfl ?_
    refine c_oneIfV hr ?_
    refine Cont.v ?_
    refine wp_iret rfl rfl rfl ?_
    exact kk 5 (by decide) hs5
  by_cases hs6 : x = nI 6
  · refine wp_sw (tg := 136) rfl (by rw [hs6]; rfl) ?_
    refine wp_aload0 (pc' := 137) rfl rfl ?_
    refine wp_getRF (pc' := 140) rfl rfl (by first | exact TK.k1 hT rfl | exact TK.kk hT rfl | exact TK.r hT rfl | assumption) (by first | exact TK.k1 hT rfl | exact TK.kk hT rfl | exact TK.r hT rfl | assumption) rfl ?_
    refine wp_getI (pc' := 143) rfl rfl (by first | exact TK.k1 hT rfl | exact TK.kk hT rfl | exact TK.r hT rfl | assumption) rfl ?_
    refine wp_iret rfl rfl rfl ?_
    exact kk 6 (by decide) hs6
  by_cases hs7 : x = nI 7
  · refine wp_sw (tg := 144) rfl (by rw [hs7]; rfl) ?_
    refine wp_aload0 (pc' := 145) rfl rfl ?_
    refine wp_getRF (pc' := 148) rfl rfl (by first | exact TK.k1 hT rfl | exact TK.kk hT rfl | exact TK.r hT rfl | assumption) (by first | exact TK.k1 hT rfl | exact TK.kk hT rfl | exact TK.r hT rfl | assumption) rfl ?_
    refine wp_getRF (pc' := 151) rfl rfl (by first | exact TK.k1 hT rfl | exact TK.kk hT rfl | exact TK.r hT rfl | assumption) (by first | exact TK.k1 hT rfl | exact TK.kk hT rfl | exact TK.r hT rfl | assumption) rfl ?_
    refine wp_callS1 (pc' := 154) rfl rfl rfl rfl rfl rfl ?_
    refine c_sum (by first | exact TK.k1 hT rfl | exact TK.kk hT rfl | exact TK.r hT rfl | assumption) (by decide) ?_
    refine Cont.v ?_
    refine wp_iret rfl rfl rfl ?_
    exact kk 7 (by decide) hs7
  by_cases hs8 : x = nI 8
  · refine wp_sw (tg := 155) rfl (by rw [hs8]; rfl) ?_
    refine wp_aload0 (pc' := 156) rfl rfl ?_
    refine wp_getRF (pc' := 159) rfl rfl (by first | exact TK.k1 hT rfl | exact TK.kk hT rfl | exact TK.r hT rfl | assumption) (by first | exact TK.k1 hT rfl | exact TK.kk hT rfl | exact TK.r hT rfl | assumption) rfl ?_
    refine wp_getRF (pc' := 162) rfl rfl (by first | exact TK.k1 hT rfl | exact TK.kk hT rfl | exact TK.r hT rfl | assumption) (by first | exact TK.k1 hT rfl | exact TK.kk hT rfl | exact TK.r hT rfl | assumption) rfl ?_
    refine wp_callS1 (pc' := 165) rfl rfl rfl rfl rfl rfl ?_
    refine c_sum (by first | exact TK.k1 hT rfl | exact TK.kk hT rfl | exact TK.r hT rfl | assumption) (by decide) ?_
    refine Cont.v ?_
    refine wp_iret rfl rfl rfl ?_
    exact kk 8 (by decide) hs8
  by_cases hs9 : x = nI 9
  · refine wp_sw (tg := 166) rfl (by rw [hs9]; rfl) ?_
    refine wp_aload0 (pc' := 167) rfl rfl ?_
    refine wp_getRF (pc' := 170) rfl rfl (by first | exact TK.k1 hT rfl | exact TK.kk hT rfl | exact TK.r hT rfl | assumption) (by first | exact TK.k1 hT rfl | exact TK.kk hT rfl | exact TK.r hT rfl | assumption) rfl ?_
    refine wp_getRF (pc' := 173) rfl rfl (by first | exact TK.k1 hT rfl | exact TK.kk hT rfl | exact TK.r hT rfl | assumption) (by first | exact TK.k1 hT rfl | exact TK.kk hT rfl | exact TK.r hT rfl | assumption) rfl ?_
    refine wp_callS1 (pc' := 176) rfl rfl rfl rfl rfl rfl ?_
    refine c_sum (by first | exact TK.k1 hT rfl | exact TK.kk hT rfl | exact TK.r hT rfl | assumption) (by decide) ?_
    refine Cont.v ?_
    refine wp_iret rfl rfl rfl ?_
    exact kk 9 (by decide) hs9
  by_cases hs10 : x = nI 10
  · refine wp_sw (tg := 177) rfl (by rw [hs10]; rfl) ?_
    refine wp_aload0 (pc' := 178) rfl rfl ?_
    refine wp_getRF (pc' := 181) rfl rfl (by first | exact TK.k1 hT rfl | exact TK.kk hT rfl | exact TK.r hT rfl | assumption) (by first | exact TK.k1 hT rfl | exact TK.kk hT rfl | exact TK.r hT rfl | assumption) rfl ?_
    refine wp_getI (pc' := 184) rfl rfl (by first | exact TK.k1 hT rfl | exact TK.kk hT rfl | exact TK.r hT rfl | assumption) rfl ?_
    refine wp_callS1 (pc' := 187) rfl rfl rfl rfl rfl rfl ?_
    refine c_bitCount ?_
    refine Cont.v ?_
    refine wp_iret rfl rfl rfl ?_
    exact kk 10 (by decide) hs10
  by_cases hs11 : x = nI 11
  · refine wp_sw (tg := 188) rfl (by rw [hs11]; rfl) ?_
    refine wp_aload0 (pc' := 189) rfl rfl ?_
    refine wp_getRF (pc' := 192) rfl rfl (by first | exact TK.k1 hT rfl | exact TK.kk hT rfl | exact TK.r hT rfl | assumption) (by first | exact TK.k1 hT rfl | exact TK.kk hT rfl | exact TK.r hT rfl | assumption) rfl ?_
    refine wp_getRF (pc' := 195) rfl rfl (by first | exact TK.k1 hT rfl | exact TK.kk hT rfl | exact TK.r hT rfl | assumption) (by first | exact TK.k1 hT rfl | exact TK.kk hT rfl | exact TK.r hT rfl | assumption) rfl ?_
    refine wp_getI (pc' := 198) rfl rfl (by first | exact TK.k1 hT rfl | exact TK.kk hT rfl | exact TK.r hT rfl | assumption) rfl ?_
    refine wp_iret rfl rfl rfl ?_
    exact kk 11 (by decide) hs11
  by_cases hs12 : x = nI 12
  · refine wp_sw (tg := 199) rfl (by rw [hs12]; rfl) ?_
    refine wp_aload0 (pc' := 200) rfl rfl ?_
    refine wp_getI (pc' := 203) rfl rfl (by first | exact TK.k1 hT rfl | exact TK.kk hT rfl | exact TK.r hT rfl | assumption) rfl ?_
    refine wp_iret rfl rfl rfl ?_
    exact Qv (kk 12 (by decide) hs12) hA rfl
  refine wp_sw (tg := 204) rfl (sw_def (fun k hk => match k, hk with | 0, _ => hs0 | 1, _ => hs1 | 2, _ => hs2 | 3, _ => hs3 | 4, _ => hs4 | 5, _ => hs5 | 6, _ => hs6 | 7, _ => hs7 | 8, _ => hs8 | 9, _ => hs9 | 10, _ => hs10 | 11, _ => hs11 | 12, _ => hs12 | k + 13, h => absurd h (show ¬ k + 13 < 13 by omega))) ?_
  refine wp_iconst (v := (-1)) (pc' := 205) rfl rfl rfl ?_
  refine wp_iret rfl rfl rfl ?_
  exact kkN (InR_sw (fun k hk => match k, hk with | 0, _ => hs0 | 1, _ => hs1 | 2, _ => hs2 | 3, _ => hs3 | 4, _ => hs4 | 5, _ => hs5 | 6, _ => hs6 | 7, _ => hs7 | 8, _ => hs8 | 9, _ => hs9 | 10, _ => hs10 | 11, _ => hs11 | 12, _ => hs12 | k + 13, h => absurd h (by omega)))
