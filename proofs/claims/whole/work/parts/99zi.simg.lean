/-! THE RELATION of the whole: class and reference, and what leaves it as it is -/
def offR (r : Option Nat) (a : Nat) : Prop := ∀ la, r = some la → a ≠ la + 5
def LaD (o : LawT) (r : Option Nat) : Prop := match o with
  | none => True
  | some q => ∀ la, r = some la → q.1 = la ∨ q.1 + 6 ≤ la ∨ la + 6 ≤ q.1
theorem laD_me {K : Nat → Nat × Nat} {R : Nat → Nat → Option Nat} {n : Nat} {I : Mem} {b : Nat} {o : LawT} (h : LO K R n I b o) : LaD o (R b 18) := by
  match o, h with
  | none, _ => trivial
  | some (la, m, z, bg), h => exact fun l e => Or.inl (by rw [h.1] at e; cases e; rfl)
theorem lo_la {K : Nat → Nat × Nat} {R : Nat → Nat → Option Nat} {n : Nat} {I : Mem} {b la : Nat} {o : LawT} (h : LO K R n I b o) (hw : LOw o) (e : R b 18 = some la) : 338 ≤ la ∧ la + 6 ≤ n := by
  match o, h, hw with
  | none, h, _ => rw [show R b 18 = none from h] at e; cases e
  | some (l, m, z, bg), h, hw =>
    rw [h.1] at e
    cases e
    exact ⟨hw, h.2.1.2.2.2.2.2.2.2.2.2.2.2.1⟩
theorem off_of {K : Nat → Nat × Nat} {R : Nat → Nat → Option Nat} {n : Nat} {I : Mem} {b a : Nat} {o : LawT} (h : LO K R n I b o) (e : offR (R b 18) a) : offL o a := by
  match o, h with
  | none, _ => trivial
  | some (l, m, z, bg), h => exact e l h.1
theorem of_off {K : Nat → Nat × Nat} {R : Nat → Nat → Option Nat} {n : Nat} {I : Mem} {b a : Nat} {o : LawT} (h : LO K R n I b o) (e : offL o a) : offR (R b 18) a := by
  match o, h, e with
  | none, h, _ => intro la q; rw [show R b 18 = none from h] at q; cases q
  | some (l, m, z, bg), h, e => intro la q; rw [h.1] at q; cases q; exact e
theorem LO_fr {K K2 : Nat → Nat × Nat} {R R2 : Nat → Nat → Option Nat} {n n2 : Nat} {I I2 : Mem} {b : Nat} {o : LawT} {r : Option Nat} (h : LO K R n I b o) (hw : LOw o) (hd : LaD o r) (hn : n ≤ n2) (hK : ∀ a, a < n → K2 a = K a) (hRb : R2 b 18 = R b 18) (hRl : ∀ a, 338 ≤ a → a < n → R2 a = R a) (hI : ∀ a, 338 ≤ a → a < n → offR r a → I2 a = I a) : LO K2 R2 n2 I2 b o := by
  match o, h, hw, hd with
  | none, h, _, _ => exact hRb.trans h
  | some (la, m, z, bg), ⟨h1, ⟨k0, k1, k2, k3, k4, k5, r1, r2, r3, r4, r5, hl, hm, hz⟩, ⟨n1, n2', n3, n4⟩, h4⟩, hw, hd =>
    have hw2 : 338 ≤ la := hw
    have o1 : ∀ k, k < 5 → offR r (la + k) := fun k hk l e q => by
      have := hd l e
      dsimp only at this
      omega
    refine ⟨hRb.trans h1, ⟨?_, ?_, ?_, ?_, ?_, ?_, ?_, ?_, ?_, ?_, ?_, by omega, hm, hz⟩, ⟨?_, fun l hl2 => ?_, n3, n4⟩, h4⟩
    · rw [hK la (by omega)]; exact k0
    · rw [hK (la + 1) (by omega)]; exact k1
    · rw [hK (la + 2) (by omega)]; exact k2
    · rw [hK (la + 3) (by omega)]; exact k3
    · rw [hK (la + 4) (by omega)]; exact k4
    · rw [hK (la + 5) (by omega)]; exact k5
    · rw [hRl la hw2 (by omega)]; exact r1
    · rw [hRl la hw2 (by omega)]; exact r2
    · rw [hRl la hw2 (by omega)]; exact r3
    · rw [hRl la hw2 (by omega)]; exact r4
    · rw [hRl la hw2 (by omega)]; exact r5
    · rw [hI la hw2 (by omega) (o1 0 (by decide))]; exact n1
    · rw [hI (la + 3) (by omega) (by omega) (o1 3 (by decide))]; exact n2' l hl2
theorem lawOO_fr {K : Nat → Nat × Nat} {R : Nat → Nat → Option Nat} {n : Nat} {I I2 : Mem} {b : Nat} {o : LawT} {r : Option Nat} {w : Nat → Int32} {ro : RwT} (h : LO K R n I b o) (hw : LOw o) (hd : LaD o r) (hI : ∀ a, 338 ≤ a → a < n → offR r a → I2 a = I a) (hL : LawOO I b o w ro) : LawOO I2 b o w ro := by
  match o, ro, h, hw, hd, hL with
  | none, none, _, _, _, _ => trivial
  | some (la, m, z, bg), some (m2, b0, b1), h, hw, hd, hL =>
    have hw2 : 338 ≤ la := hw
    have hl : la + 6 ≤ n := h.2.1.2.2.2.2.2.2.2.2.2.2.2.1
    have o1 : ∀ k, k < 5 → offR r (la + k) := fun k hk l e q => by
      have := hd l e
      dsimp only at this
      omega
    obtain ⟨h1, h2, h3, ⟨s0, s1, s2⟩, h5⟩ := hL
    refine ⟨h1, h2, h3, ⟨s0, fun l hl2 => ?_, fun t ht => ?_⟩, h5⟩
    · rw [hI (la + 1) (by omega) (by omega) (o1 1 (by decide)), hI (la + 2) (by omega) (by omega) (o1 2 (by decide)), hI (la + 4) (by omega) (by omega) (o1 4 (by decide))]; exact s1 l hl2
    · rw [hI (la + 4) (by omega) (by omega) (o1 4 (by decide))]; exact s2 t ht
theorem st_fr {K K2 : Nat → Nat × Nat} {R R2 : Nat → Nat → Option Nat} {n n2 : Nat} {I I2 : Mem} {b : Nat} {o : LawT} {r : Option Nat} {w : Nat → Int32} {ro : RwT} {H : Nat} (h : StR K R n I b o w ro H) (hd : LaD o r) (hn : n ≤ n2) (hK : ∀ a, a < n → K2 a = K a) (hRb : R2 b 18 = R b 18) (hRl : ∀ a, 338 ≤ a → a < n → R2 a = R a) (hI : ∀ a, 338 ≤ a → a < n → offR r a → I2 a = I a) (hb : ∀ k, k < 12 → I2 (b + k) = I (b + k)) : StR K2 R2 n2 I2 b o w ro H := by
  obtain ⟨h1, h2, h3, h4, h5, h6, h7⟩ := h
  exact ⟨sim_vw h1 hb, h2, LO_fr h3 h4 hd hn hK hRb hRl hI, h4, lawOO_fr h3 h4 hd hI h5, h6, h7⟩
def BasR (N : Nat) (xs : Nat → Int32) (K : Nat → Nat × Nat) (I : Mem) (L : Nat → Nat → Int64) (R : Nat → Nat → Option Nat) (n : Nat) : Prop := TK K R n ∧ TS K L ∧ SS K I R ∧ K lmScr = (50, N) ∧ ((∀ j, I lmScr j = xs j) ∧ I 44 0 = nI 0) ∧ n ≤ lmCells
def TapR (I : Mem) : Prop := ∃ T tv, I 0 7 = nI T ∧ I 318 9 = nI T ∧ T ≤ 400 ∧ (∀ j, j < 400 → I 38 j = nI (tv j)) ∧ (∀ j, j < 400 → tv j < 256) ∧ TpW (I 324) tv
def PstR (S : Mem) (w : Nat → Int32) (g : Int32) : Prop := SimS S w ∧ (∃ H, WB w H) ∧ w 2 = g
def PasR (I : Mem) (R : Nat → Nat → Option Nat) : Prop := ∃ p A Ss, PastI I R p A Ss ∧ I 318 7 = nI A ∧ ∀ i, i < A → PstR (Ss i) (fun k => I 323 (483 * i + k)) (I 319 2)
def KepR (K : Nat → Nat × Nat) (R : Nat → Nat → Option Nat) (n : Nat) (I : Mem) : Prop := (I 0 3 = nI 0 ∧ I 318 6 = nI 0) ∨ (I 0 3 = nI 1 ∧ I 318 6 = nI 1 ∧ ∃ o ro H, StR K R n I 25 o (I 320) ro H ∧ LaD o (R 1 18))
def Sim (N : Nat) (xs : Nat → Int32) (K : Nat → Nat × Nat) (I : Mem) (L : Nat → Nat → Int64) (R : Nat → Nat → Option Nat) (n : Nat) : Prop := BasR N xs K I L R n ∧ (∃ o ro H, StR K R n I 1 o (I 319) ro H) ∧ KepR K R n I ∧ TapR I ∧ PasR I R ∧ I 0 8 = I 318 14 ∧ Nrm (vw 13 I) ∧ Nrm (vw 25 I)
def Imp (a : Nat) : Prop := (1 ≤ a ∧ a < 13) ∨ (25 ≤ a ∧ a < 37) ∨ (174 ≤ a ∧ a < 318) ∨ a = 319 ∨ a = 320 ∨ a = 323 ∨ 338 ≤ a
/-- what counts stays as it is -/
def Fr (K : Nat → Nat × Nat) (I : Mem) (L : Nat → Nat → Int64) (R : Nat → Nat → Option Nat) (n : Nat) (K2 : Nat → Nat × Nat) (I2 : Mem) (L2 : Nat → Nat → Int64) (R2 : Nat → Nat → Option Nat) : Prop :=
  (∀ a, (a < n ∨ lmB ≤ a) → K2 a = K a) ∧ (∀ a, Imp a → (a < n ∨ lmB ≤ a) → offR (R 1 18) a → I2 a = I a) ∧ (I2 0 3 = I 0 3 ∧ I2 0 5 = I 0 5 ∧ I2 318 6 = I 318 6 ∧ I2 318 7 = I 318 7 ∧ I2 44 0 = I 44 0) ∧ (∀ a, lmB ≤ a → L2 a = L a) ∧ (∀ a j, ¬ (a = 13 ∧ j = 18) → (a < n ∨ lmB ≤ a) → R2 a j = R a j)
theorem fr_id {K : Nat → Nat × Nat} {I : Mem} {L : Nat → Nat → Int64} {R : Nat → Nat → Option Nat} {n : Nat} : Fr K I L R n K I L R := ⟨fun _ _ => rfl, fun _ _ _ _ => rfl, ⟨rfl, rfl, rfl, rfl, rfl⟩, fun _ _ => rfl, fun _ _ _ _ => rfl⟩
theorem fr_tr {K K1 K2 : Nat → Nat × Nat} {I I1 I2 : Mem} {L L1 L2 : Nat → Nat → Int64} {R R1 R2 : Nat → Nat → Option Nat} {n n1 : Nat} (hn1 : 338 ≤ n) (h : Fr K I L R n K1 I1 L1 R1) (h2 : Fr K1 I1 L1 R1 n1 K2 I2 L2 R2) (hn : n ≤ n1) : Fr K I L R n K2 I2 L2 R2 := by
  obtain ⟨a1, a2, ⟨a3, a4, a5, a6, a9⟩, a7, a8⟩ := h
  obtain ⟨b1, b2, ⟨b3, b4, b5, b6, b9⟩, b7, b8⟩ := h2
  have hr : R1 1 18 = R 1 18 := a8 1 18 (by omega) (by omega)
  exact ⟨fun a ha => (b1 a (by omega)).trans (a1 a ha), fun a q ha ho => (b2 a q (by omega) (by rw [hr]; exact ho)).trans (a2 a q ha ho), ⟨b3.trans a3, b4.trans a4, b5.trans a5, b6.trans a6, b9.trans a9⟩, fun a ha => (b7 a ha).trans (a7 a ha), fun a j q ha => (b8 a j q (by omega)).trans (a8 a j q ha)⟩
theorem fr_I {K : Nat → Nat × Nat} {I I2 : Mem} {L : Nat → Nat → Int64} {R : Nat → Nat → Option Nat} {n : Nat} (h : ∀ a, Imp a → offR (R 1 18) a → I2 a = I a) (h3 : I2 0 3 = I 0 3) (h5 : I2 0 5 = I 0 5) (h6 : I2 318 6 = I 318 6) (h7 : I2 318 7 = I 318 7) (h44 : I2 44 0 = I 44 0) : Fr K I L R n K I2 L R := ⟨fun _ _ => rfl, fun a q _ o => h a q o, ⟨h3, h5, h6, h7, h44⟩, fun _ _ => rfl, fun _ _ _ _ => rfl⟩
theorem fr_L {K : Nat → Nat × Nat} {I : Mem} {L L2 : Nat → Nat → Int64} {R : Nat → Nat → Option Nat} {n : Nat} (h : ∀ a, lmB ≤ a → L2 a = L a) : Fr K I L R n K I L2 R := ⟨fun _ _ => rfl, fun _ _ _ _ => rfl, ⟨rfl, rfl, rfl, rfl, rfl⟩, h, fun _ _ _ _ => rfl⟩
theorem fr_R {K : Nat → Nat × Nat} {I : Mem} {L : Nat → Nat → Int64} {R : Nat → Nat → Option Nat} {n : Nat} {v : Option Nat} : Fr K I L R n K I L (up2 R 13 18 v) := ⟨fun _ _ => rfl, fun _ _ _ _ => rfl, ⟨rfl, rfl, rfl, rfl, rfl⟩, fun _ _ => rfl, fun _ _ q _ => up2_off q⟩
theorem fr_ex {K : Nat → Nat × Nat} {I : Mem} {L : Nat → Nat → Int64} {R : Nat → Nat → Option Nat} {n : Nat} {ci : Nat} (hn : 338 ≤ n) (hl : n ≤ lmCells) : Fr K I L R n (up1 (up1 K n (ci, 0)) n (ci, 1)) (upr I n (fun _ => 0)) (upr L n (fun _ => 0)) (upr R n (fun _ => none)) := by
  have hb : lmCells < lmB := by decide
  exact ⟨fun a ha => by rw [up1_ne (by omega), up1_ne (by omega)], fun a _ ha _ => upr_ne (by omega), ⟨by rw [upr_ne (by omega)], by rw [upr_ne (by omega)], by rw [upr_ne (by omega)], by rw [upr_ne (by omega)], by rw [upr_ne (by omega)]⟩, fun a ha => upr_ne (by omega), fun a j _ ha => by rw [upr_ne (by omega)]⟩
theorem tk_fr {K K2 : Nat → Nat × Nat} {I I2 : Mem} {L L2 : Nat → Nat → Int64} {R R2 : Nat → Nat → Option Nat} {n n2 : Nat} (h : TK K R n) (e : Fr K I L R n K2 I2 L2 R2) (hn : n ≤ n2) : TK K2 R2 n2 := by
  obtain ⟨h1, h2, h3⟩ := h
  refine ⟨fun a k hk => ?_, fun a j b hb => ?_, by omega⟩
  · have := k0_338 hk
    rw [e.1 a (by omega)]; exact h1 a k hk
  · have := r0_338 hb
    rw [e.2.2.2.2 a j (fun q => by obtain ⟨rfl, rfl⟩ := q; cases hb) (by omega)]; exact h2 a j b hb
theorem bas_fr {N : Nat} {xs : Nat → Int32} {K K2 : Nat → Nat × Nat} {I I2 : Mem} {L L2 : Nat → Nat → Int64} {R R2 : Nat → Nat → Option Nat} {n n2 : Nat} (h : BasR N xs K I L R n) (hla : ∀ la, R 1 18 = some la → 338 ≤ la ∧ la + 6 ≤ n) (e : Fr K I L R n K2 I2 L2 R2) (hn : n ≤ n2) (hl : n2 ≤ lmCells) : BasR N xs K2 I2 L2 R2 n2 := by
  obtain ⟨h1, ⟨t1, t2⟩, h3, h4, h5, h6⟩ := h
  have hb : lmCells < lmB := by decide
  have hb2 : 338 ≤ lmB := by decide
  have hI : ∀ a, lmB ≤ a → I2 a = I a := fun a ha => e.2.1 a (by unfold Imp; omega) (by omega) (fun la q => by have := hla la q; omega)
  have h338 := h1.2.2
  have h44 : I2 44 0 = I 44 0 := e.2.2.1.2.2.2.2
  refine ⟨tk_fr h1 e hn, ⟨fun k hk => ?_, fun k j hk => ?_⟩, fun i hi => ?_, ?_, ⟨fun j => ?_, by rw [h44]; exact h5.2⟩, hl⟩
  · rw [e.1 _ (by omega)]; exact t1 k hk
  · rw [e.2.2.2.1 _ (by omega)]; exact t2 k j hk
  · obtain ⟨s1, s2, s3, s4, s5⟩ := h3 i hi
    rw [e.1 _ (by omega), e.1 _ (by omega), e.2.2.2.2 _ _ (by omega) (by omega), hI _ (by omega), hI _ (by omega)]
    exact ⟨s1, s2, s3, s4, s5⟩
  · rw [e.1 _ (by unfold lmScr; omega)]; exact h4
  · rw [hI _ (by unfold lmScr; omega)]; exact h5.1 j
theorem pas_fr {K K2 : Nat → Nat × Nat} {I I2 : Mem} {L L2 : Nat → Nat → Int64} {R R2 : Nat → Nat → Option Nat} {n : Nat} (hn : 338 ≤ n) (h : PasR I R) (hla : ∀ la, R 1 18 = some la → 338 ≤ la ∧ la + 6 ≤ n) (e : Fr K I L R n K2 I2 L2 R2) : PasR I2 R2 := by
  obtain ⟨p, A, Ss, ⟨p1, p2, p3, p4, p5⟩, h2, h3⟩ := h
  have off : ∀ a, a < 338 → offR (R 1 18) a := fun a ha la q => by have := hla la q; omega
  have hI : ∀ a, Imp a → a < 338 → I2 a = I a := fun a hi ha => e.2.1 a hi (by omega) (off a ha)
  have hR : ∀ a j, a < 338 → ¬ (a = 13 ∧ j = 18) → R2 a j = R a j := fun a j ha q => e.2.2.2.2 a j q (by omega)
  refine ⟨p, A, Ss, ⟨fun i hi => ?_, p2, p3, e.2.2.1.2.1.trans p4, fun i hi => ?_⟩, e.2.2.1.2.2.2.1.trans h2, fun i hi => ?_⟩
  · obtain ⟨q1, q2, q3⟩ := p1 i hi
    exact ⟨(hR 37 i (by decide) (by omega)).trans q1, q2, Nrm_eq q3 (fun k hk => hI _ (by unfold Imp; omega) (by omega))⟩
  · obtain ⟨q1, q2⟩ := p5 i hi
    obtain ⟨-, r2, -⟩ := p1 i (by omega)
    refine ⟨fun k hk => (hI _ (by unfold Imp; omega) (by omega)).trans (q1 k hk), ?_⟩
    rw [hR (p i) 18 (by omega) (by omega), hR 1 18 (by decide) (by omega)]; exact q2
  · rw [hI 323 (by unfold Imp; omega) (by decide), hI 319 (by unfold Imp; omega) (by decide)]; exact h3 i hi
/-- a step that leaves what counts as it is -/
theorem sim_fr {N : Nat} {xs : Nat → Int32} {K K2 : Nat → Nat × Nat} {I I2 : Mem} {L L2 : Nat → Nat → Int64} {R R2 : Nat → Nat → Option Nat} {n n2 : Nat} (h : Sim N xs K I L R n) (e : Fr K I L R n K2 I2 L2 R2) (hn : n ≤ n2) (hl : n2 ≤ lmCells) (ht : TapR I2) (h8 : I2 0 8 = I2 318 14) (h13 : Nrm (vw 13 I2)) : Sim N xs K2 I2 L2 R2 n2 := by
  obtain ⟨hB, ⟨o, ro, H, hS⟩, hK, -, hP, -, -, h25⟩ := h
  have h338 := hB.1.2.2
  have hla : ∀ la, R 1 18 = some la → 338 ≤ la ∧ la + 6 ≤ n := fun la q => lo_la hS.2.2.1 hS.2.2.2.1 q
  have off : ∀ a, a < 338 → offR (R 1 18) a := fun a ha la q => by have := hla la q; omega
  have hI : ∀ a, Imp a → a < 338 → I2 a = I a := fun a hi ha => e.2.1 a hi (by omega) (off a ha)
  have hR : ∀ a j, a < 338 → ¬ (a = 13 ∧ j = 18) → R2 a j = R a j := fun a j ha q => e.2.2.2.2 a j q (by omega)
  have hIl : ∀ a, 338 ≤ a → a < n → offR (R 1 18) a → I2 a = I a := fun a h1 h2 h3 => e.2.1 a (by unfold Imp; omega) (by omega) h3
  have hRl : ∀ a, 338 ≤ a → a < n → R2 a = R a := fun a h1 h2 => funext fun j => e.2.2.2.2 a j (by omega) (by omega)
  have hKl : ∀ a, a < n → K2 a = K a := fun a ha => e.1 a (by omega)
  refine ⟨bas_fr hB hla e hn hl, ⟨o, ro, H, ?_⟩, ?_, ht, pas_fr h338 hP hla e, h8, h13, Nrm_eq h25 (fun k hk => hI _ (by unfold Imp; omega) (by omega))⟩
  · rw [hI 319 (by unfold Imp; omega) (by decide)]
    exact st_fr hS (laD_me hS.2.2.1) hn hKl (hR 1 18 (by decide) (by omega)) hRl hIl (fun k hk => hI _ (by unfold Imp; omega) (by omega))
  · rcases hK with ⟨k1, k2⟩ | ⟨k1, k2, ok, rk, Hk, k3, k4⟩
    · exact Or.inl ⟨e.2.2.1.1.trans k1, e.2.2.1.2.2.1.trans k2⟩
    · refine Or.inr ⟨e.2.2.1.1.trans k1, e.2.2.1.2.2.1.trans k2, ok, rk, Hk, ?_, ?_⟩
      · rw [hI 320 (by unfold Imp; omega) (by decide)]
        exact st_fr k3 k4 hn hKl (hR 25 18 (by decide) (by omega)) hRl hIl (fun k hk => hI _ (by unfold Imp; omega) (by omega))
      · rw [hR 1 18 (by decide) (by omega)]; exact k4
