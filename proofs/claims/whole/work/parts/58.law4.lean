/-! A TEXT OF THE LAW: its conditions -/
abbrev Sz : Type := (Nat → Int32) × Nat
def lw0 (I : Mem) (st : Sz) : Mem := up2 (upr I 45 st.1) 41 6 (nI st.2)
def lw (I : Mem) (st : Sz) (p : Nat) : Mem := rdM (lw0 I st) p
theorem lw0_o {I : Mem} {st : Sz} {a : Nat} (h1 : a ≠ 45) (h2 : a ≠ 41) : lw0 I st a = I a := by unfold lw0; rw [up2_row h2, upr_ne h1]
theorem lw0_rd {I : Mem} {st : Sz} {T : Nat} {tv : Nat → Nat} (h : RdI I T tv) : RdI (lw0 I st) T tv :=
  ⟨by rw [lw0_o (by decide) (by decide)]; exact h.1, h.2.1, fun j hj => by rw [lw0_o (by decide) (by decide)]; exact h.2.2.1 j hj, h.2.2.2⟩
theorem lw0_ss {K : Nat → Nat × Nat} {I : Mem} {R : Nat → Nat → Option Nat} {st : Sz} (h : SS K I R) : SS K (lw0 I st) R := SS_off h (fun a ha => lw0_o (by unfold lmB at ha; omega) (by unfold lmB at ha; omega))
theorem lw_6 {I : Mem} {st : Sz} {p : Nat} : lw I st p 41 6 = nI st.2 := by unfold lw; rw [rdM_o (by decide)]; exact up2_hit
theorem lw_up45 {I : Mem} {st : Sz} {p j : Nat} {v : Int32} : up2 (lw I st p) 45 j v = lw I (up1 st.1 j v, st.2) p := by
  unfold lw
  rw [rdM_up2 (by decide)]
  congr 1
  unfold lw0
  funext a i
  by_cases h : a = 45
  · subst h; rw [up2_same, up2_row (by decide), up2_row (by decide), upr_same, upr_same]; rfl
  · rw [up2_row h]
    by_cases h2 : a = 41
    · subst h2; rw [up2_same, up2_same, upr_ne h, upr_ne h]
    · rw [up2_row h2, up2_row h2, upr_ne h, upr_ne h]
theorem lw_up6 {I : Mem} {st : Sz} {p z : Nat} : up2 (lw I st p) 41 6 (nI z) = lw I (st.1, z) p := by
  unfold lw
  rw [rdM_up2 (by decide)]
  congr 1
  exact up2_up2
def putS (st : Sz) (v : Int32) : Sz := if st.2 < 400 then (up1 st.1 st.2 v, st.2 + 1) else st
theorem putS_le {st : Sz} {v : Int32} (h : st.2 ≤ 400) : (putS st v).2 ≤ 400 := by
  unfold putS; split
  · show st.2 + 1 ≤ 400; omega
  · exact h
abbrev Re : Type := Bool × Sz × Nat
def kNot : List Nat := [110, 111, 116]
def kAnd : List Nat := [97, 110, 100]
def kOr : List Nat := [111, 114]
def kIf : List Nat := [105, 102]
def parW : List (List Nat) := [[99, 101, 108, 108], [120], [121], [100, 101, 112, 116, 104], [119, 97, 116, 101, 114], [116, 117, 114, 118, 101, 115], [115, 117, 110]]
def facW : List (List Nat) := [[100, 114, 97, 105, 110, 101, 100], [114, 97, 105, 110], [108, 97, 105, 100]]
/-- one part of a sum -/
def parF (tv : Nat → Nat) (T : Nat) (st : Sz) (p : Nat) : Option (Sz × Nat) := if atDg tv T p then (match numR tv T p (nI 0) (nI 999) with
    | none => none
    | some x => some (putS st (nI x.1), x.2)) else (match wd tv T p parW with
    | none => none
    | some k => some (putS st (nI (1000 + k)), af tv T p))
abbrev sgn (tv : Nat → Nat) (T p c : Nat) : Prop := p < T ∧ tv p = c
def addS (i : Nat) (st : Sz) : Sz := if 0 < i then putS st (nI 1011) else st
def sumF (tv : Nat → Nat) (T : Nat) : Nat → Nat → Sz → Nat → Re
  | 0, _, st, p => (false, st, p)
  | f + 1, i, st, p => match parF tv T st p with
    | none => (false, st, p)
    | some x => if sgn tv T x.2 43 then sumF tv T f (i + 1) (addS i x.1) (skp tv T (x.2 + 1)) else (true, addS i x.1, x.2)
def sumP (tv : Nat → Nat) (T : Nat) (st : Sz) (p : Nat) : Re := sumF tv T 400 0 st p
/-- a comparison -/
def cmpF (tv : Nat → Nat) (T : Nat) (st : Sz) (p : Nat) : Re := if (sumP tv T st p).1 = true then (if sgn tv T (sumP tv T st p).2.2 60 then (if (sumP tv T (sumP tv T st p).2.1 (skp tv T ((sumP tv T st p).2.2 + 1))).1 = true then (true, putS (sumP tv T (sumP tv T st p).2.1 (skp tv T ((sumP tv T st p).2.2 + 1))).2.1 (nI 1012), (sumP tv T (sumP tv T st p).2.1 (skp tv T ((sumP tv T st p).2.2 + 1))).2.2) else sumP tv T (sumP tv T st p).2.1 (skp tv T ((sumP tv T st p).2.2 + 1)))
    else if sgn tv T (sumP tv T st p).2.2 62 then (if (sumP tv T (sumP tv T st p).2.1 (skp tv T ((sumP tv T st p).2.2 + 1))).1 = true then (true, putS (sumP tv T (sumP tv T st p).2.1 (skp tv T ((sumP tv T st p).2.2 + 1))).2.1 (nI 1013), (sumP tv T (sumP tv T st p).2.1 (skp tv T ((sumP tv T st p).2.2 + 1))).2.2) else sumP tv T (sumP tv T st p).2.1 (skp tv T ((sumP tv T st p).2.2 + 1)))
    else (false, (sumP tv T st p).2)) else sumP tv T st p
def basF (tv : Nat → Nat) (T : Nat) (st : Sz) (p : Nat) : Re := match wd tv T p facW with
  | some k => (true, putS st (nI (1007 + k)), af tv T p)
  | none => cmpF tv T st p
/-- A { w A }, each further one closed by v -/
def lisL (tv : Nat → Nat) (T : Nat) (w : List Nat) (v : Int32) (A : Sz → Nat → Re) : Nat → Sz → Nat → Re
  | 0, st, p => (true, st, p)
  | f + 1, st, p => if wdB tv T p w = true then (if (A st (af tv T p)).1 = true then lisL tv T w v A f (putS (A st (af tv T p)).2.1 v) (A st (af tv T p)).2.2 else A st (af tv T p)) else (true, st, p)
def lisF (tv : Nat → Nat) (T : Nat) (w : List Nat) (v : Int32) (A : Sz → Nat → Re) (st : Sz) (p : Nat) : Re := if (A st p).1 = true then lisL tv T w v A 400 (A st p).2.1 (A st p).2.2 else A st p
def evyF (tv : Nat → Nat) (T : Nat) (A : Sz → Nat → Re) : Sz → Nat → Re := lisF tv T kAnd (nI 1014) A
def anyF (tv : Nat → Nat) (T : Nat) (A : Sz → Nat → Re) : Sz → Nat → Re := lisF tv T kOr (nI 1015) (evyF tv T A)
def clsF (tv : Nat → Nat) (T : Nat) (r : Re) : Re := if r.1 = true ∧ sgn tv T r.2.2 41 then (true, r.2.1, skp tv T (r.2.2 + 1)) else (false, r.2)
def notF (r : Re) : Re := if r.1 = true then (true, putS r.2.1 (nI 1010), r.2.2) else r
def atoF (tv : Nat → Nat) (T : Nat) : Nat → Sz → Nat → Re
  | 0 => basF tv T
  | e + 1 => fun st p => if wdB tv T p kNot = true then notF (atoF tv T e st (af tv T p)) else if sgn tv T p 40 then clsF tv T (anyF tv T (atoF tv T e) st (skp tv T (p + 1))) else basF tv T st p
/-- what a reading method does -/
def RdC (K : Nat → Nat × Nat) (I : Mem) (L : Nat → Nat → Int64) (R : Nat → Nat → Option Nat) (n s T M dp h : Nat) (F : Sz → Nat → Re) : Prop := ∀ (d : Nat) (st : Sz) (p : Nat) (Q : Lo → Lm → Prop), st.2 ≤ 400 → p ≤ T →
  (∀ b st2 q, F st p = (b, st2, q) → st2.2 ≤ 400 → q ≤ T → Q (.inl (some (.int (if b = true then nI 1 else nI 0)))) (K, lw I st2 q, L, R, n, s)) → Ok (d + h) M [.ref 41, .int (nI dp)] (K, lw I st p, L, R, n, s) Q
theorem parF_d {tv : Nat → Nat} {T p v q : Nat} {st : Sz} (h : atDg tv T p) (e : numR tv T p (nI 0) (nI 999) = some (v, q)) : parF tv T st p = some (putS st (nI v), q) := by unfold parF; rw [if_pos h, e]
theorem parF_w {tv : Nat → Nat} {T p k : Nat} {st : Sz} (h : ¬ atDg tv T p) (e : wd tv T p parW = some k) : parF tv T st p = some (putS st (nI (1000 + k)), af tv T p) := by unfold parF; rw [if_neg h, e]

theorem c_put {d : Nat} {K : Nat → Nat × Nat} {I : Nat → Nat → Int32} {L : Nat → Nat → Int64} {R : Nat → Nat → Option Nat} {n s : Nat} {Q : Lo → Lm → Prop} {T p : Nat} {tv : Nat → Nat} {st : Sz} {v : Int32} (hT : TK K R n) (hz : st.2 ≤ 400) (kk : Q (.inl none) (K, lw I (putS st v) (p), L, R, n, s)) : Ok (d + 1) 102 [.ref 41, .int v] (K, lw I (st) (p), L, R, n, s) Q := by
  obtain ⟨-, -, hn⟩ := id hT
  refine Ok.enter (F := F_102) (ls := [.ref 41, .int v]) rfl rfl ?_
  refine wp_aload0 (pc' := 1) rfl rfl ?_
  refine wp_getI (pc' := 4) rfl rfl (by first | exact TK.k1 hT rfl | exact TK.kk hT rfl | exact TK.r hT rfl | assumption) rfl ?_
  rw [lw_6]
  refine wp_aload0 (pc' := 5) rfl rfl ?_
  refine wp_getRF (pc' := 8) rfl rfl (by first | exact TK.k1 hT rfl | exact TK.kk hT rfl | exact TK.r hT rfl | assumption) (by first | exact TK.k1 hT rfl | exact TK.kk hT rfl | exact TK.r hT rfl | assumption) rfl ?_
  refine wp_alen (pc' := 9) rfl (by first | exact TK.k1 hT rfl | exact TK.kk hT rfl | exact TK.r hT rfl | assumption) rfl rfl rfl ?_
  refine wp_icmpge (pc' := 12) rfl rfl ?_ ?_
  · intro h9
    refine wp_vret rfl rfl ?_
    first | exact Qu kk (by unfold putS; rw [if_pos (lt_nI h9 (by omega) (by decide))]) | exact Qu kk (by unfold putS; rw [if_neg (fun q => h9 (nI_lt q (by decide)))])
  · intro h9
    refine wp_aload0 (pc' := 13) rfl rfl ?_
    refine wp_getRF (pc' := 16) rfl rfl (by first | exact TK.k1 hT rfl | exact TK.kk hT rfl | exact TK.r hT rfl | assumption) (by first | exact TK.k1 hT rfl | exact TK.kk hT rfl | exact TK.r hT rfl | assumption) rfl ?_
    refine wp_aload0 (pc' := 17) rfl rfl ?_
    refine wp_getI (pc' := 20) rfl rfl (by first | exact TK.k1 hT rfl | exact TK.kk hT rfl | exact TK.r hT rfl | assumption) rfl ?_
    rw [lw_6]
    refine wp_iload1 (pc' := 21) rfl rfl ?_
    refine wp_iast st.2 (pc' := 22) rfl (TK.kk hT rfl) (by omega) rfl (lt_nI h9 (by omega) (by decide)) (by decide) rfl ?_
    rw [lw_up45]
    refine wp_aload0 (pc' := 23) rfl rfl ?_
    refine wp_dup (pc' := 24) rfl rfl rfl ?_
    refine wp_getI (pc' := 27) rfl rfl (by first | exact TK.k1 hT rfl | exact TK.kk hT rfl | exact TK.r hT rfl | assumption) rfl ?_
    rw [lw_6]
    refine wp_iconst (v := nI 1) (pc' := 28) rfl rfl rfl ?_
    first | refine wp_iaddN (pc' := 29) rfl (by with_reducible rfl) (by with_reducible rfl) rfl ?_ | refine wp_iadd (pc' := 29) rfl rfl ?_
    refine wp_putI (pc' := 32) rfl rfl (TK.k1 hT rfl) (by omega) rfl ?_
    rw [lw_up6]
    refine wp_vret rfl rfl ?_
    first | exact Qu kk (by unfold putS; rw [if_pos (lt_nI h9 (by omega) (by decide))]) | exact Qu kk (by unfold putS; rw [if_neg (fun q => h9 (nI_lt q (by decide)))])
