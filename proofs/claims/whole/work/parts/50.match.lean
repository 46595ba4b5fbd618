/-! FALLS told; HEARTHS together -/
def cdV (h : Nat) : Int64 := Int64.ofNat ([11881376, 456976, 17576, 676, 26, 1].getD h 0)
def pdV (h : Nat) : Int64 := Int64.ofNat ([16807, 2401, 343, 49, 7, 1].getD h 0)
def clr (a h : Nat) : Nat := a &&& (63 ^^^ 2 ^ h)
theorem or64 : ∀ a : Fin 64, ∀ h : Fin 6, nI a.1 ||| jshl (nI 1) (nI h.1) = nI (a.1 ||| 2 ^ h.1) ∧ (a.1 ||| 2 ^ h.1) < 64 ∧ nI a.1 &&& (jshl (nI 1) (nI h.1) ^^^ (-1)) = nI (clr a.1 h.1) ∧ clr a.1 h.1 < 64 := by decide +kernel
def gcW (S : Mem) (c m h : Nat) (B : Nat → Int64) : Int64 := B m + (S 1 c).toInt64 * 308915776 - (nI (c + 1)).toInt64 * cdV h
def gcS (S : Mem) (c m h : Nat) (B : Nat → Int64) : Nat → Int64 := if (m ||| 2 ^ h) = m then B else if hasP (S 9 h) c then up1 B (m ||| 2 ^ h) (jmax8 (B (m ||| 2 ^ h)) (gcW S c m h B)) else B
def gcI (S : Mem) (c m : Nat) (B : Nat → Int64) (i : Nat) : Nat → Int64 := forN (fun h G => gcS S c m h G) B i
def gcX (S : Mem) (H c m : Nat) (B : Nat → Int64) : Nat → Int64 := if B m = -1 then B else gcI S c m B H
def gcO (S : Mem) (H c : Nat) (B : Nat → Int64) (i : Nat) : Nat → Int64 := forN (fun j G => gcX S H c (63 - j) G) B i
theorem gcS_m {S : Mem} {c m h : Nat} {B : Nat → Int64} : gcS S c m h B m = B m := by
  unfold gcS
  split
  · rfl
  · split
    · rename_i h1 _; exact up1_ne (fun e => h1 e.symm)
    · rfl
theorem gcI_m {S : Mem} {c m : Nat} {B : Nat → Int64} : ∀ i, gcI S c m B i m = B m
  | 0 => rfl
  | i + 1 => gcS_m.trans (gcI_m i)
def fillL (w : Nat) (v : Int64) (g : Nat → Int64) : Nat → Int64 := fun j => if j < w then v else g j
theorem fillL_s {i : Nat} {v : Int64} {g : Nat → Int64} : up1 (fillL i v g) i v = fillL (i + 1) v g := by
  funext j; unfold up1 fillL
  by_cases h : j = i
  · subst h; rw [if_pos rfl, if_pos (by omega)]
  · rw [if_neg h]
    by_cases q : j < i
    · rw [if_pos q, if_pos (by omega)]
    · rw [if_neg q, if_neg (by omega)]
theorem fillL_0 {v : Int64} {g : Nat → Int64} : fillL 0 v g = g := by funext j; unfold fillL; rw [if_neg (by omega)]
def plS (S : Mem) (H c : Nat) (B : Nat → Int64) : Nat → Int64 := if openQ S c then gcO S H c B 64 else B
def plB (S : Mem) (H : Nat) (g : Nat → Int64) (i : Nat) : Nat → Int64 := forN (fun c B => plS S H c B) (up1 (fillL 64 (-1) g) 0 0) i
def mxL (B : Nat → Int64) (i : Nat) : Int64 := forN (fun m x => jmax8 x (B m)) 0 i
def plSum (x : Int64) : Int64 := (x + 308915776 - 1) / 308915776
def plV (x : Int64) (h : Nat) : Int32 := (jrem8 ((plSum x * 308915776 - x) / cdV h) 26).toInt32 - nI 1
theorem cd_ne {h : Nat} (hh : h < 6) : ¬ cdV h = 0 ∧ ¬ pdV h = 0 := by
  have : h = 0 ∨ h = 1 ∨ h = 2 ∨ h = 3 ∨ h = 4 ∨ h = 5 := by omega
  rcases this with rfl | rfl | rfl | rfl | rfl | rfl <;> decide
def lowF (a : Nat) : Nat → Nat → Nat
  | 0, i => i
  | r + 1, i => if jshr (nI a) (nI i) &&& nI 1 = nI 0 then lowF a r (i + 1) else i
theorem lowF_le (a : Nat) : ∀ r i, lowF a r i ≤ i + r
  | 0, i => Nat.le_refl _
  | r + 1, i => by
    unfold lowF
    split
    · have := lowF_le a r (i + 1); omega
    · omega
def bpW (S : Mem) (B : Nat → Int64) (q h g : Nat) : Int64 := B (clr q g) + (popC (S 9 h &&& S 9 g)).toInt64 * 117649 - (nI (g + 1)).toInt64 * pdV h - (nI (h + 1)).toInt64 * pdV g
def bpS (S : Mem) (B : Nat → Int64) (q h g : Nat) (x : Int64) : Int64 := if hasP (nI q) g then jmax8 x (bpW S B q h g) else x
def bpN (S : Mem) (B : Nat → Int64) (q h : Nat) (i : Nat) : Int64 := forN (fun j x => bpS S B q h (h + 1 + j) x) (B q) i
def bpV (S : Mem) (B : Nat → Int64) (H a : Nat) : Int64 := bpN S B (clr a (lowF a 5 0)) (lowF a 5 0) (H - (lowF a 5 0 + 1))
def prB (S : Mem) (H : Nat) (g : Nat → Int64) (i : Nat) : Nat → Int64 := forN (fun j B => up1 B (1 + j) (bpV S B H (1 + j))) (up1 g 0 0) i
def prSum (x : Int64) : Int64 := (x + 117649 - 1) / 117649
def prV (x : Int64) (h : Nat) : Int32 := (jrem8 ((prSum x * 117649 - x) / pdV h) 7).toInt32 - nI 1
theorem up2_uprL {f : Nat → Nat → Int64} {a j : Nat} {g : Nat → Int64} {v : Int64} : up2 (upr f a g) a j v = upr f a (up1 g j v) := up2_upr
theorem up2_asL {f : Nat → Nat → Int64} {a c : Nat} {v : Int64} : up2 f a c v = upr f a (up1 (f a) c v) := by
  have : f = upr f a (f a) := upr_id.symm
  rw [this, up2_upr, upr_upr, upr_same]
theorem lmB_ne {k : Nat} : lmB + k ≠ 173 := by unfold lmB; omega
theorem TS_upr {K : Nat → Nat × Nat} {L : Nat → Nat → Int64} {g : Nat → Int64} (h : TS K L) : TS K (upr L 173 g) := ⟨h.1, fun k j hk => by rw [upr_ne lmB_ne]; exact h.2 k j hk⟩
theorem TS_cd {K : Nat → Nat × Nat} {L : Nat → Nat → Int64} {h : Nat} (hS : TS K L) : L (lmB + 1000) h = cdV h := hS.2 0 h (by decide)
theorem TS_pd {K : Nat → Nat × Nat} {L : Nat → Nat → Int64} {h : Nat} (hS : TS K L) : L (lmB + 1001) h = pdV h := hS.2 1 h (by decide)
theorem shl7 : ∀ a : Fin 7, jshl (nI 1) (nI a.1) = nI (2 ^ a.1) ∧ nI (2 ^ a.1) - nI 1 &&& nI 63 = nI (2 ^ a.1 - 1) ∧ 1 ≤ 2 ^ a.1 ∧ 2 ^ a.1 ≤ 64 := by decide +kernel
def bdV (I : Mem) (tv : Nat → Nat) (m : Nat) : Mem × Int32 := bdF tv m (zrN (fun j => I (71 + j)) 100) 2000
def askV (I : Mem) (tv : Nat → Nat) (m : Nat) : Int32 := if (bdV I tv m).2 < nI 2 then -1 else (lgF (bdV I tv m).1 (fillR 10 (nI 0) (I 171)) 100).2.2
def askM (I : Mem) (tv : Nat → Nat) (m : Nat) : Mem := if (bdV I tv m).2 < nI 2 then chgM I (bdV I tv m).1 else upr (chgM I (bdV I tv m).1) 171 (lgF (bdV I tv m).1 (fillR 10 (nI 0) (I 171)) 100).1
theorem c_bestDayV {d : Nat} {K : Nat → Nat × Nat} {I : Mem} {L : Nat → Nat → Int64} {R : Nat → Nat → Option Nat} {n s : Nat} {Q : Lo → Lm → Prop} {m : Nat} {tv : Nat → Nat} (hT : TK K R n) (htv : ∀ j, j < 400 → I 38 j = nI (tv j)) (htl : ∀ j, j < 400 → tv j < 256) (hm : m ≤ 20) (kk : Q (.inl (some (.int (askV I tv m)))) (K, askM I tv m, L, R, n, s)) : Ok (d + 3) 173 [.ref 69, .int (nI m)] (K, I, L, R, n, s) Q := by
  refine c_bestDay hT htv htl hm (fun h => ?_) (fun h => ?_)
  · unfold askV askM bdV at kk; rw [if_pos h, if_pos h] at kk; exact kk
  · unfold askV askM bdV at kk; rw [if_neg h, if_neg h] at kk; exact kk
theorem gc_dec : ∀ i : Fin 64, nI (63 - i.1) + (-1) = nI 63 - nI (i.1 + 1) := by decide +kernel
theorem gcX_a {S : Mem} {H c m : Nat} {G : Nat → Int64} (h : ¬ G m = -1 ∨ H = 0) : gcX S H c m G = gcI S c m G H := by
  unfold gcX
  by_cases e : G m = -1
  · rw [if_pos e]
    have : H = 0 := h.resolve_left (fun q => q e)
    subst this; rfl
  · rw [if_neg e]
theorem gcX_b {S : Mem} {H c m j : Nat} {G : Nat → Int64} (h : ¬ G m = -1 ∨ j = 0) (h2 : lg_cmp (gcI S c m G j m) (-1) = nI 0) : gcX S H c m G = gcI S c m G j := by
  have e : G m = -1 := by
    have := (lg_cmp_eq _ _).mp h2
    rw [gcI_m] at this; exact this
  unfold gcX; rw [if_pos e]
  have : j = 0 := h.resolve_left (fun q => q e)
  subst this; rfl
theorem gc_ne {S : Mem} {c m j : Nat} {G : Nat → Int64} (h2 : ¬ lg_cmp (gcI S c m G j m) (-1) = nI 0) : ¬ G m = -1 := fun e => h2 ((lg_cmp_eq _ _).mpr (by rw [gcI_m]; exact e))
theorem gcI_s0 {S : Mem} {c m j : Nat} {G : Nat → Int64} (hm : m < 64) (ho : (m ||| 2 ^ j) < 64) (h : nI (m ||| 2 ^ j) = nI m) : gcI S c m G (j + 1) = gcI S c m G j := by
  show gcS S c m j (gcI S c m G j) = _
  rw [gcS, if_pos ((nI_eq (by omega) (by omega)).mp h)]
theorem gcI_s1 {S : Mem} {c m j : Nat} {G : Nat → Int64} (h : ¬ nI (m ||| 2 ^ j) = nI m) (h2 : ¬ hasP (S 9 j) c) : gcI S c m G (j + 1) = gcI S c m G j := by
  show gcS S c m j (gcI S c m G j) = _
  rw [gcS, if_neg (fun q => h (by rw [q])), if_neg h2]
theorem gcI_s2 {S : Mem} {c m j : Nat} {G : Nat → Int64} (h : ¬ nI (m ||| 2 ^ j) = nI m) (h2 : hasP (S 9 j) c) : gcI S c m G (j + 1) = up1 (gcI S c m G j) (m ||| 2 ^ j) (jmax8 (gcI S c m G j (m ||| 2 ^ j)) (gcW S c m j (gcI S c m G j))) := by
  show gcS S c m j (gcI S c m G j) = _
  rw [gcS, if_neg (fun q => h (by rw [q])), if_pos h2]
theorem mL1 {K : Nat → Nat × Nat} {I : Nat → Nat → Int32} {L M : Nat → Nat → Int64} {R : Nat → Nat → Option Nat} {n s : Nat} (h : L = M) : ((K, I, L, R, n, s) : Lm) = (K, I, M, R, n, s) := by subst h; rfl

theorem c_falls0 {d : Nat} {K : Nat → Nat × Nat} {I : Nat → Nat → Int32} {L : Nat → Nat → Int64} {R : Nat → Nat → Option Nat} {n s : Nat} {Q : Lo → Lm → Prop} {T : Nat} {tv : Nat → Nat} (hT : TK K R n) (hf : n + 1 ≤ lmCells) (hs : s + 6 ≤ lmSlots) (hL7 : I 0 7 = nI T) (hT4 : T ≤ 400) (htv : ∀ j, j < 400 → I 38 j = nI (tv j)) (htl : ∀ j, j < 400 → tv j < 256) (kkE : trB 100 10 tv T T = false → Q (.inr n) (exM 14 (K, up2 I 0 7 (nI 0), L, R, n, s))) (kk : trB 100 10 tv T T = true → Q (.inl (some (.int (fcnt tv (T / 2) 2000)))) (K, up2 I 0 7 (nI 0), L, R, n, s)) : Ok (d + 4) 164 [.ref 0, .int (nI 0)] (K, I, L, R, n, s) Q := by
  obtain ⟨-, -, hn⟩ := id hT
  refine Ok.enter (F := F_164) (ls := [.ref 0, .int (nI 0), lDead]) rfl rfl ?_
  refine wp_aload0 (pc' := 1) rfl rfl ?_
  refine wp_bipush (v := nI 100) (pc' := 3) rfl rfl rfl ?_
  refine wp_bipush (v := nI 10) (pc' := 5) rfl rfl rfl ?_
  refine wp_callV3 (pc' := 8) rfl rfl rfl rfl rfl (by first | exact TK.k1 hT rfl | exact TK.kk hT rfl | exact TK.r hT rfl | assumption) rfl rfl ?_
  refine c_toldRows hT hf hs hL7 hT4 htv htl (by decide) (by decide) (fun he => Cont.e rfl (kkE he)) (fun hok => ?_)
  obtain ⟨hok1, hok2⟩ := trB_40 hok
  have htv2 : ∀ j, j < 400 → (up2 I 0 7 (nI 0)) 38 j = nI (tv j) := fun j hj => by rw [up2_row (by decide)]; exact htv j hj
  refine Cont.v ?_
  refine wp_istore2 (pc' := 9) rfl (by first | rfl | assumption) rfl ?_
  refine wp_iload1 (pc' := 10) rfl rfl ?_
  refine wp_ifeqT rfl rfl ?_
  refine wp_aload0 (pc' := 25) rfl rfl ?_
  refine wp_getRF (pc' := 28) rfl rfl (by first | exact TK.k1 hT rfl | exact TK.kk hT rfl | exact TK.r hT rfl | assumption) (by first | exact TK.k1 hT rfl | exact TK.kk hT rfl | exact TK.r hT rfl | assumption) rfl ?_
  refine wp_iload2 (pc' := 29) rfl rfl ?_
  refine wp_callV2 (pc' := 32) rfl rfl rfl rfl rfl (by first | exact TK.k1 hT rfl | exact TK.kk hT rfl | exact TK.r hT rfl | assumption) rfl rfl ?_
  refine c_fcount hT htv2 htl (by omega) ?_
  refine Cont.v ?_
  refine wp_iret rfl rfl rfl ?_
  exact kk hok
theorem c_falls1 {d : Nat} {K : Nat → Nat × Nat} {I : Nat → Nat → Int32} {L : Nat → Nat → Int64} {R : Nat → Nat → Option Nat} {n s : Nat} {Q : Lo → Lm → Prop} {T : Nat} {tv : Nat → Nat} (hT : TK K R n) (hf : n + 1 ≤ lmCells) (hs : s + 6 ≤ lmSlots) (hL7 : I 0 7 = nI T) (hT4 : T ≤ 400) (htv : ∀ j, j < 400 → I 38 j = nI (tv j)) (htl : ∀ j, j < 400 → tv j < 256) (kkE : trB 100 10 tv T T = false → Q (.inr n) (exM 14 (K, up2 I 0 7 (nI 0), L, R, n, s))) (kk : trB 100 10 tv T T = true → Q (.inl (some (.int (ffrom (fun k => fitB tv k (T / 2) = true) 2000 0)))) (K, up2 I 0 7 (nI 0), L, R, n, s)) : Ok (d + 4) 164 [.ref 0, .int (nI 1)] (K, I, L, R, n, s) Q := by
  obtain ⟨-, -, hn⟩ := id hT
  refine Ok.enter (F := F_164) (ls := [.ref 0, .int (nI 1), lDead]) rfl rfl ?_
  refine wp_aload0 (pc' := 1) rfl rfl ?_
  refine wp_bipush (v := nI 100) (pc' := 3) rfl rfl rfl ?_
  refine wp_bipush (v := nI 10) (pc' := 5) rfl rfl rfl ?_
  refine wp_callV3 (pc' := 8) rfl rfl rfl rfl rfl (by first | exact TK.k1 hT rfl | exact TK.kk hT rfl | exact TK.r hT rfl | assumption) rfl rfl ?_
  refine c_toldRows hT hf hs hL7 hT4 htv htl (by decide) (by decide) (fun he => Cont.e rfl (kkE he)) (fun hok => ?_)
  obtain ⟨hok1, hok2⟩ := trB_40 hok
  have htv2 : ∀ j, j < 400 → (up2 I 0 7 (nI 0)) 38 j = nI (tv j) := fun j hj => by rw [up2_row (by decide)]; exact htv j hj
  refine Cont.v ?_
  refine wp_istore2 (pc' := 9) rfl (by first | rfl | assumption) rfl ?_
  refine wp_iload1 (pc' := 10) rfl rfl ?_
  refine wp_ifeqF (pc' := 13) rfl (by decide) rfl ?_
  refine wp_aload0 (pc' := 14) rfl rfl ?_
  refine wp_getRF (pc' := 17) rfl rfl (by first | exact TK.k1 hT rfl | exact TK.kk hT rfl | exact TK.r hT rfl | assumption) (by first | exact TK.k1 hT rfl | exact TK.kk hT rfl | exact TK.r hT rfl | assumption) rfl ?_
  refine wp_iload2 (pc' := 18) rfl rfl ?_
  refine wp_callV2 (pc' := 21) rfl rfl rfl rfl rfl (by first | exact TK.k1 hT rfl | exact TK.kk hT rfl | exact TK.r hT rfl | assumption) rfl rfl ?_
  refine c_firstFit hT htv2 htl (by omega) ?_
  refine Cont.v ?_
  refine wp_goto rfl ?_
  refine wp_iret rfl rfl rfl ?_
  exact kk hok
theorem c_ask {d : Nat} {K : Nat → Nat × Nat} {I : Nat → Nat → Int32} {L : Nat → Nat → Int64} {R : Nat → Nat → Option Nat} {n s : Nat} {Q : Lo → Lm → Prop} {T : Nat} {tv : Nat → Nat} (hT : TK K R n) (hf : n + 1 ≤ lmCells) (hs : s + 6 ≤ lmSlots) (hL7 : I 0 7 = nI T) (hT4 : T ≤ 400) (htv : ∀ j, j < 400 → I 38 j = nI (tv j)) (htl : ∀ j, j < 400 → tv j < 256) (kkE : trB 100 10 tv T T = false → Q (.inr n) (exM 14 (K, up2 I 0 7 (nI 0), L, R, n, s))) (kk : trB 100 10 tv T T = true → Q (.inl (some (.int (askV (up2 I 0 7 (nI 0)) tv (T / 2))))) (K, askM (up2 I 0 7 (nI 0)) tv (T / 2), L, R, n, s)) : Ok (d + 4) 172 [.ref 0] (K, I, L, R, n, s) Q := by
  obtain ⟨-, -, hn⟩ := id hT
  refine Ok.enter (F := F_172) (ls := [.ref 0]) rfl rfl ?_
  refine wp_aload0 (pc' := 1) rfl rfl ?_
  refine wp_getRF (pc' := 4) rfl rfl (by first | exact TK.k1 hT rfl | exact TK.kk hT rfl | exact TK.r hT rfl | assumption) (by first | exact TK.k1 hT rfl | exact TK.kk hT rfl | exact TK.r hT rfl | assumption) rfl ?_
  refine wp_aload0 (pc' := 5) rfl rfl ?_
  refine wp_bipush (v := nI 100) (pc' := 7) rfl rfl rfl ?_
  refine wp_bipush (v := nI 10) (pc' := 9) rfl rfl rfl ?_
  refine wp_callV3 (pc' := 12) rfl rfl rfl rfl rfl (by first | exact TK.k1 hT rfl | exact TK.kk hT rfl | exact TK.r hT rfl | assumption) rfl rfl ?_
  refine c_toldRows hT hf hs hL7 hT4 htv htl (by decide) (by decide) (fun he => Cont.e rfl (kkE he)) (fun hok => ?_)
  obtain ⟨hok1, hok2⟩ := trB_40 hok
  have htv2 : ∀ j, j < 400 → (up2 I 0 7 (nI 0)) 38 j = nI (tv j) := fun j hj => by rw [up2_row (by decide)]; exact htv j hj
  refine Cont.v ?_
  refine wp_callV2 (pc' := 15) rfl rfl rfl rfl rfl (by first | exact TK.k1 hT rfl | exact TK.kk hT rfl | exact TK.r hT rfl | assumption) rfl rfl ?_
  refine c_bestDayV hT htv2 htl (by omega) ?_
  refine Cont.v ?_
  refine wp_iret rfl rfl rfl ?_
  exact kk hok
theorem c_fillL {d : Nat} {K : Nat → Nat × Nat} {I : Nat → Nat → Int32} {L : Nat → Nat → Int64} {R : Nat → Nat → Option Nat} {n s : Nat} {Q : Lo → Lm → Prop} {a w : Nat} {v : Int64} (ha : K a = (51, w)) (hw : w < 2 ^ 31) (han : a < n) (kk : Q (.inl none) (K, I, upr L a (fillL w v (L a)), R, n, s)) : Ok (d + 1) 179 [.ref a, .long v] (K, I, L, R, n, s) Q := by
  refine Ok.enter (F := F_179) (ls := [.ref a, .long v, lDead, lDead, lDead]) rfl rfl ?_
  refine wp_iconst (v := nI 0) (pc' := 1) rfl rfl rfl ?_
  refine wp_istore3 (pc' := 2) rfl (by first | rfl | assumption) rfl ?_
  refine wp_aload0 (pc' := 3) rfl rfl ?_
  refine wp_alen (pc' := 4) rfl (by assumption) rfl rfl rfl ?_
  refine wp_istore4 (pc' := 6) rfl (by first | rfl | assumption) rfl ?_
  have lp6 : ∀ r (i : Nat), i + r = w → WP d F_179 6 [.ref a, .long v, lDead, .int (nI i), .int (nI w)] [] (K, I, upr L a (fillL i v (L a)), R, n, s) Q := by
    intro r; induction r with
    | zero =>
      intro i hi 
      have hi2 : i = w := by omega
      subst hi2
      refine wp_iload3 (pc' := 7) rfl rfl ?_
      refine wp_iload4 (pc' := 9) rfl rfl ?_
      refine wp_icmpgeT rfl (nI_nlt (by omega) (by omega)) ?_
      refine wp_vret rfl rfl ?_
      exact kk
    | succ r ih =>
      intro i hi 
      have hlt : i < w := by omega
      refine wp_iload3 (pc' := 7) rfl rfl ?_
      refine wp_iload4 (pc' := 9) rfl rfl ?_
      refine wp_icmpgeF (pc' := 12) rfl (nI_lt (by omega) (by omega)) rfl ?_
      refine wp_aload0 (pc' := 13) rfl rfl ?_
      refine wp_iload3 (pc' := 14) rfl rfl ?_
      refine wp_lload1 (pc' := 15) rfl rfl ?_
      refine wp_last _ (pc' := 16) rfl (by assumption) (by omega) (by with_reducible rfl) (by omega) (by first | decide | assumption | omega) rfl ?_
      first | refine wp_iinc3 (w := nI 1) (pc' := 19) rfl rfl rfl (by with_reducible exact nI_add _ _) rfl ?_ | refine wp_iinc3 (w := nI 1) (pc' := 19) rfl rfl rfl rfl rfl ?_
      refine wp_goto rfl ?_
      exact WP.cg (ih (i + 1) (by omega)) (lC1 (lL1 (by rfl) (lC1 (lI1 (by rfl) (lI1 (by rfl) rfl))))) rfl (by rw [up2_upr, fillL_s])
  exact WP.cg (lp6 (w - (0)) (0) (by omega)) (lC1 (lL1 (by rfl) (lC1 (lI1 (by rfl) (lI1 (by rfl) rfl))))) rfl (by rw [fillL_0, upr_id])
theorem c_giveCell {d : Nat} {K : Nat → Nat × Nat} {I : Nat → Nat → Int32} {L : Nat → Nat → Int64} {R : Nat → Nat → Option Nat} {n s : Nat} {Q : Lo → Lm → Prop} {b c H : Nat} {B : Nat → Int64} (hT : TK K R n) (hS : TS K L) (hb : StK K R n b) (hH : I b 10 = nI H) (hH6 : H ≤ 6) (hc : c < 25) (kk : Q (.inl none) (K, I, upr L 173 (gcO (vw b I) H c B 64), R, n, s)) : Ok (d + 2) 180 [.ref 172, .ref b, .int (nI c)] (K, I, upr L 173 B, R, n, s) Q := by
  obtain ⟨-, -, hn⟩ := id hT
  obtain ⟨k0, k1, k2, k3, k4, k5, k6, k7, k8, k9, k10, k11, r0, r1, r2, r3, r4, r5, r6, r7, r8, r9, r10, hbn⟩ := id hb
  refine Ok.enter (F := F_180) (ls := [.ref 172, .ref b, .int (nI c), lDead, lDead, lDead, lDead, lDead]) rfl rfl ?_
  refine wp_bipush (v := nI 63) (pc' := 2) rfl rfl rfl ?_
  refine wp_istore3 (pc' := 3) rfl (by first | rfl | assumption) rfl ?_
  have lp3 : ∀ r (i : Nat) (v4 : Value) (v5 : Value) (v6 : Value) (v7 : Value), i + r = 64 → isL v4 = false → isL v5 = false → isL v7 = false → WP (d + 1) F_180 3 [.ref 172, .ref b, .int (nI c), .int (nI 63 - nI i), v4, v5, v6, v7] [] (K, I, upr L 173 (gcO (vw b I) H c B i), R, n, s) Q := by
    intro r; induction r with
    | zero =>
      intro i v4 v5 v6 v7 hi hv0 hv1 hv2
      have hi2 : i = 64 := by omega
      subst hi2
      refine wp_iload3 (pc' := 4) rfl rfl ?_
      refine wp_ifltT rfl (by decide) ?_
      refine wp_vret rfl rfl ?_
      exact kk
    | succ r ih =>
      intro i v4 v5 v6 v7 hi hv0 hv1 hv2
      have hlt : i < 64 := by omega
      rw [nI_sub (show i ≤ 63 by omega)]
      obtain ⟨m, hm⟩ : ∃ m, m = 63 - i := ⟨_, rfl⟩
      rw [← hm]
      have hsx : gcO (vw b I) H c B (i + 1) = gcX (vw b I) H c m (gcO (vw b I) H c B i) := by rw [hm]; rfl
      generalize hG : gcO (vw b I) H c B i = G at hsx ⊢
      refine wp_iload3 (pc' := 4) rfl rfl ?_
      refine wp_ifltF (pc' := 7) rfl (nI_pos (by omega)) rfl ?_
      refine wp_iconst (v := nI 0) (pc' := 8) rfl rfl rfl ?_
      refine wp_istore4 (pc' := 10) rfl (by first | rfl | assumption) rfl ?_
      have lp10 : ∀ rb (j : Nat) (v5 : Value) (v6 : Value) (v7 : Value), j + rb = H → ¬ G m = -1 ∨ j = 0 → isL v5 = false → isL v7 = false → WP (d + 1) F_180 10 [.ref 172, .ref b, .int (nI c), .int (nI m), .int (nI j), v5, v6, v7] [] (K, I, upr L 173 (gcI (vw b I) c m G j), R, n, s) Q := by
        intro rb; induction rb with
        | zero =>
          intro j v5 v6 v7 hib hvb0 hvb1 hvb2
          have hi2b : j = H := by omega
          subst hi2b
          refine wp_iload4 (pc' := 12) rfl rfl ?_
          refine wp_aload1 (pc' := 13) rfl rfl ?_
          refine wp_getI (pc' := 16) rfl rfl (by first | exact TK.k1 hT rfl | exact TK.kk hT rfl | exact TK.r hT rfl | assumption) rfl ?_
          refine wp_icmpgeT rfl (by rw [hH]; exact nI_nlt (by omega) (by omega)) ?_
          first | refine wp_iinc3 (w := (-1)) (pc' := 116) rfl rfl rfl (by with_reducible exact nI_sub1 (by omega)) rfl ?_ | refine wp_iinc3 (w := (-1)) (pc' := 116) rfl rfl rfl rfl rfl ?_
          refine wp_goto rfl ?_
          exact WP.cg (ih (i + 1) _ _ _ _ (by omega) (by first | rfl | assumption) (by first | rfl | assumption) (by first | rfl | assumption)) (lC1 (lC1 (lI1 (by first | with_reducible rfl | (rw [hm]; exact gc_dec ⟨i, by omega⟩)) (lI1 (by first | with_reducible rfl | (rw [hm]; exact gc_dec ⟨i, by omega⟩)) (lC1 (lC1 (lC1 (lC1 rfl)))))))) rfl (by first | rw [hsx, gcX_a hvb0] | rw [hsx, gcX_b hvb0 h29])
        | succ rb ihb =>
          intro j v5 v6 v7 hib hvb0 hvb1 hvb2
          have hltb : j < H := by omega
          refine wp_iload4 (pc' := 12) rfl rfl ?_
          refine wp_aload1 (pc' := 13) rfl rfl ?_
          refine wp_getI (pc' := 16) rfl rfl (by first | exact TK.k1 hT rfl | exact TK.kk hT rfl | exact TK.r hT rfl | assumption) rfl ?_
          refine wp_icmpgeF (pc' := 19) rfl (by rw [hH]; exact nI_lt (by omega) (by omega)) rfl ?_
          refine wp_aload0 (pc' := 20) rfl rfl ?_
          refine wp_getRF (pc' := 23) rfl rfl (by first | exact TK.k1 hT rfl | exact TK.kk hT rfl | exact TK.r hT rfl | assumption) (by first | exact TK.k1 hT rfl | exact TK.kk hT rfl | exact TK.r hT rfl | assumption) rfl ?_
          refine wp_iload3 (pc' := 24) rfl rfl ?_
          refine wp_lald m (pc' := 25) rfl (TK.kk hT rfl) rfl (by omega) (by decide) rfl ?_
          rw [upr_same]
          refine wp_pool (v := .long (-1)) (pc' := 28) rfl rfl rfl rfl rfl ?_
          refine wp_lcmp (pc' := 29) rfl rfl ?_
          first | refine wp_ifeqB (pc' := 32) rfl rfl ?_ ?_ | refine wp_ifeq (pc' := 32) rfl rfl ?_ ?_
          · intro h29
            first | refine wp_iinc3 (w := (-1)) (pc' := 116) rfl rfl rfl (by with_reducible exact nI_sub1 (by omega)) rfl ?_ | refine wp_iinc3 (w := (-1)) (pc' := 116) rfl rfl rfl rfl rfl ?_
            refine wp_goto rfl ?_
            exact WP.cg (ih (i + 1) _ _ _ _ (by omega) (by first | rfl | assumption) (by first | rfl | assumption) (by first | rfl | assumption)) (lC1 (lC1 (lI1 (by first | with_reducible rfl | (rw [hm]; exact gc_dec ⟨i, by omega⟩)) (lI1 (by first | with_reducible rfl | (rw [hm]; exact gc_dec ⟨i, by omega⟩)) (lC1 (lC1 (lC1 (lC1 rfl)))))))) rfl (by first | rw [hsx, gcX_a hvb0] | rw [hsx, gcX_b hvb0 h29])
          · intro h29
            refine wp_iload3 (pc' := 33) rfl rfl ?_
            refine wp_iconst (v := nI 1) (pc' := 34) rfl rfl rfl ?_
            refine wp_iload4 (pc' := 36) rfl rfl ?_
            refine wp_ishl (pc' := 37) rfl rfl ?_
            refine wp_ior (pc' := 38) rfl rfl ?_
            obtain ⟨o1, o2, o3, o4⟩ := or64 ⟨m, by omega⟩ ⟨j, by omega⟩
            rw [o1]
            refine wp_istore5 (pc' := 40) rfl (by first | rfl | assumption) rfl ?_
            refine wp_iload5 (pc' := 42) rfl rfl ?_
            refine wp_iload3 (pc' := 43) rfl rfl ?_
            refine wp_icmpeq (pc' := 46) rfl rfl ?_ ?_
            · intro h43
              first | refine wp_iinc4 (w := nI 1) (pc' := 110) rfl rfl rfl (by with_reducible exact nI_add _ _) rfl ?_ | refine wp_iinc4 (w := nI 1) (pc' := 110) rfl rfl rfl rfl rfl ?_
              refine wp_goto rfl ?_
              exact WP.cg (ihb (j + 1) _ _ _ (by omega) (Or.inl (gc_ne h29)) (by first | rfl | assumption) (by first | rfl | assumption)) (lC1 (lC1 (lI1 (by with_reducible rfl) (lI1 (by with_reducible rfl) (lI1 (by with_reducible rfl) (lC1 (lC1 (lC1 rfl)))))))) rfl (by first | rw [gcI_s0 (by omega) o2 h43] | rw [gcI_s1 h43 h53] | (rw [gcI_s2 h43 h53]; rfl))
            · intro h43
              refine wp_aload1 (pc' := 47) rfl rfl ?_
              refine wp_iload4 (pc' := 49) rfl rfl ?_
              refine wp_iload2 (pc' := 50) rfl rfl ?_
              refine wp_callV3 (pc' := 53) rfl rfl rfl rfl rfl (by first | exact TK.k1 hT rfl | exact TK.kk hT rfl | exact TK.r hT rfl | assumption) rfl rfl ?_
              refine c_hasRight hb (by omega) ?_
              refine Cont.v ?_
              first | refine wp_ifeqB (pc' := 56) rfl rfl ?_ ?_ | refine wp_ifeq (pc' := 56) rfl rfl ?_ ?_
              · intro h53
                first | refine wp_iinc4 (w := nI 1) (pc' := 110) rfl rfl rfl (by with_reducible exact nI_add _ _) rfl ?_ | refine wp_iinc4 (w := nI 1) (pc' := 110) rfl rfl rfl rfl rfl ?_
                refine wp_goto rfl ?_
                exact WP.cg (ihb (j + 1) _ _ _ (by omega) (Or.inl (gc_ne h29)) (by first | rfl | assumption) (by first | rfl | assumption)) (lC1 (lC1 (lI1 (by with_reducible rfl) (lI1 (by with_reducible rfl) (lI1 (by with_reducible rfl) (lC1 (lC1 (lC1 rfl)))))))) rfl (by first | rw [gcI_s0 (by omega) o2 h43] | rw [gcI_s1 h43 h53] | (rw [gcI_s2 h43 h53]; rfl))
              · intro h53
                refine wp_aload0 (pc' := 57) rfl rfl ?_
                refine wp_getRF (pc' := 60) rfl rfl (by first | exact TK.k1 hT rfl | exact TK.kk hT rfl | exact TK.r hT rfl | assumption) (by first | exact TK.k1 hT rfl | exact TK.kk hT rfl | exact TK.r hT rfl | assumption) rfl ?_
                refine wp_iload3 (pc' := 61) rfl rfl ?_
                refine wp_lald m (pc' := 62) rfl (TK.kk hT rfl) rfl (by omega) (by decide) rfl ?_
                rw [upr_same]
                refine wp_aload1 (pc' := 63) rfl rfl ?_
                refine wp_getRF (pc' := 66) rfl rfl (by first | exact TK.k1 hT rfl | exact TK.kk hT rfl | exact TK.r hT rfl | assumption) (by first | exact TK.k1 hT rfl | exact TK.kk hT rfl | exact TK.r hT rfl | assumption) rfl ?_
                refine wp_iload2 (pc' := 67) rfl rfl ?_
                refine wp_iald _ (pc' := 68) rfl (by first | exact TK.k1 hT rfl | exact TK.kk hT rfl | exact TK.r hT rfl | assumption) (by with_reducible rfl) (by omega) (by first | decide | assumption | omega) rfl ?_
                refine wp_i2l (pc' := 69) rfl rfl ?_
                refine wp_pool (v := .long (308915776)) (pc' := 72) rfl rfl rfl rfl rfl ?_
                refine wp_lmul (pc' := 73) rfl rfl ?_
                refine wp_ladd (pc' := 74) rfl rfl ?_
                refine wp_iload2 (pc' := 75) rfl rfl ?_
                refine wp_iconst (v := nI 1) (pc' := 76) rfl rfl rfl ?_
                first | refine wp_iaddN (pc' := 77) rfl (by with_reducible rfl) (by with_reducible rfl) rfl ?_ | refine wp_iadd (pc' := 77) rfl rfl ?_
                refine wp_i2l (pc' := 78) rfl rfl ?_
                refine wp_pool (v := .ref (lmB + 1000)) (pc' := 81) rfl rfl rfl rfl rfl ?_
                refine wp_iload4 (pc' := 83) rfl rfl ?_
                refine wp_lald j (pc' := 84) rfl (hS.1 0 (by decide)) rfl (by omega) (by decide) rfl ?_
                rw [TS_cd (TS_upr hS)]
                refine wp_lmul (pc' := 85) rfl rfl ?_
                refine wp_lsub (pc' := 86) rfl rfl ?_
                refine wp_lstore6 (pc' := 88) rfl (by first | rfl | assumption) rfl ?_
                refine wp_aload0 (pc' := 89) rfl rfl ?_
                refine wp_getRF (pc' := 92) rfl rfl (by first | exact TK.k1 hT rfl | exact TK.kk hT rfl | exact TK.r hT rfl | assumption) (by first | exact TK.k1 hT rfl | exact TK.kk hT rfl | exact TK.r hT rfl | assumption) rfl ?_
                refine wp_iload5 (pc' := 94) rfl rfl ?_
                refine wp_aload0 (pc' := 95) rfl rfl ?_
                refine wp_getRF (pc' := 98) rfl rfl (by first | exact TK.k1 hT rfl | exact TK.kk hT rfl | exact TK.r hT rfl | assumption) (by first | exact TK.k1 hT rfl | exact TK.kk hT rfl | exact TK.r hT rfl | assumption) rfl ?_
                refine wp_iload5 (pc' := 100) rfl rfl ?_
                refine wp_lald (m ||| 2 ^ j) (pc' := 101) rfl (TK.kk hT rfl) rfl o2 (by decide) rfl ?_
                rw [upr_same]
                refine wp_lload6 (pc' := 103) rfl rfl ?_
                refine wp_maxL (pc' := 106) rfl rfl rfl rfl ?_
                refine wp_last (m ||| 2 ^ j) (pc' := 107) rfl (TK.kk hT rfl) (by omega) rfl o2 (by decide) rfl ?_
                rw [up2_upr]
                first | refine wp_iinc4 (w := nI 1) (pc' := 110) rfl rfl rfl (by with_reducible exact nI_add _ _) rfl ?_ | refine wp_iinc4 (w := nI 1) (pc' := 110) rfl rfl rfl rfl rfl ?_
                refine wp_goto rfl ?_
                exact WP.cg (ihb (j + 1) _ _ _ (by omega) (Or.inl (gc_ne h29)) (by first | rfl | assumption) (by first | rfl | assumption)) (lC1 (lC1 (lI1 (by with_reducible rfl) (lI1 (by with_reducible rfl) (lI1 (by with_reducible rfl) (lC1 (lC1 (lC1 rfl)))))))) rfl (by first | rw [gcI_s0 (by omega) o2 h43] | rw [gcI_s1 h43 h53] | (rw [gcI_s2 h43 h53]; rfl))
      exact WP.cg (lp10 (H - (0)) (0) _ _ _ (by omega) (Or.inr rfl) (by first | rfl | assumption) (by first | rfl | assumption)) (lC1 (lC1 (lI1 (by with_reducible rfl) (lI1 (by with_reducible rfl) (lI1 (by with_reducible rfl) (lC1 (lC1 (lC1 rfl)))))))) rfl (by rfl)
  exact WP.cg (lp3 (64 - (0)) (0) _ _ _ _ (by omega) (by first | rfl | assumption) (by first | rfl | assumption) (by first | rfl | assumption)) (lC1 (lC1 (lI1 (by first | with_reducible rfl | decide) (lI1 (by first | with_reducible rfl | decide) (lC1 (lC1 (lC1 (lC1 rfl)))))))) rfl (by rfl)
theorem c_placeN {d : Nat} {K : Nat → Nat × Nat} {I : Nat → Nat → Int32} {L : Nat → Nat → Int64} {R : Nat → Nat → Option Nat} {n s : Nat} {Q : Lo → Lm → Prop} {b H h : Nat} (hT : TK K R n) (hS : TS K L) (hb : StK K R n b) (hH : I b 10 = nI H) (hH6 : H ≤ 6)  (kk : Q (.inl (some (.int ((plSum (mxL (plB (vw b I) H (L 173) 25) 64)).toInt32)))) (K, I, upr L 173 (plB (vw b I) H (L 173) 25), R, n, s)) : Ok (d + 3) 178 [.ref 172, .ref b, .int (-1)] (K, I, L, R, n, s) Q := by
  obtain ⟨-, -, hn⟩ := id hT
  obtain ⟨k0, k1, k2, k3, k4, k5, k6, k7, k8, k9, k10, k11, r0, r1, r2, r3, r4, r5, r6, r7, r8, r9, r10, hbn⟩ := id hb
  refine Ok.enter (F := F_178) (ls := [.ref 172, .ref b, .int (-1), lDead, lDead, lDead, lDead]) rfl rfl ?_
  refine wp_aload0 (pc' := 1) rfl rfl ?_
  refine wp_getRF (pc' := 4) rfl rfl (by first | exact TK.k1 hT rfl | exact TK.kk hT rfl | exact TK.r hT rfl | assumption) (by first | exact TK.k1 hT rfl | exact TK.kk hT rfl | exact TK.r hT rfl | assumption) rfl ?_
  refine wp_pool (v := .long (-1)) (pc' := 7) rfl rfl rfl rfl rfl ?_
  refine wp_callS2 (pc' := 10) rfl rfl rfl rfl rfl rfl ?_
  refine c_fillL (w := 64) (TK.kk hT rfl) (by decide) (by omega) ?_
  refine Cont.u ?_
  skip
  refine wp_aload0 (pc' := 11) rfl rfl ?_
  refine wp_getRF (pc' := 14) rfl rfl (by first | exact TK.k1 hT rfl | exact TK.kk hT rfl | exact TK.r hT rfl | assumption) (by first | exact TK.k1 hT rfl | exact TK.kk hT rfl | exact TK.r hT rfl | assumption) rfl ?_
  refine wp_iconst (v := nI 0) (pc' := 15) rfl rfl rfl ?_
  refine wp_lconst (v := 0) (pc' := 16) rfl rfl rfl ?_
  refine wp_last _ (pc' := 17) rfl (by first | exact TK.k1 hT rfl | exact TK.kk hT rfl | exact TK.r hT rfl | assumption) (by omega) (by with_reducible rfl) (by omega) (by first | decide | assumption | omega) rfl ?_
  refine wp_iconst (v := nI 0) (pc' := 18) rfl rfl rfl ?_
  refine wp_istore3 (pc' := 19) rfl (by first | rfl | assumption) rfl ?_
  have lp19 : ∀ r (i : Nat) (v4 : Value) (v5 : Value) (v6 : Value), i + r = 25 → isL v4 = false → isL v5 = false → isL v6 = false → WP (d + 2) F_178 19 [.ref 172, .ref b, .int (-1), .int (nI i), v4, v5, v6] [] (K, I, upr L 173 (plB (vw b I) H (L 173) i), R, n, s) Q := by
    intro r; induction r with
    | zero =>
      intro i v4 v5 v6 hi hv0 hv1 hv2
      have hi2 : i = 25 := by omega
      subst hi2
      refine wp_iload3 (pc' := 20) rfl rfl ?_
      refine wp_bipush (v := nI 25) (pc' := 22) rfl rfl rfl ?_
      refine wp_icmpgeT rfl (nI_nlt (by omega) (by omega)) ?_
      generalize hZ : plB (vw b I) H (L 173) 25 = Z
      refine wp_lconst (v := 0) (pc' := 46) rfl rfl rfl ?_
      refine wp_lstore3 (pc' := 47) rfl (by first | rfl | assumption) rfl ?_
      refine wp_iconst (v := nI 0) (pc' := 48) rfl rfl rfl ?_
      refine wp_istore5 (pc' := 50) rfl (by first | rfl | assumption) rfl ?_
      have lp50 : ∀ rb (i : Nat) (v6 : Value), i + rb = 64 → isL v6 = false → WP (d + 2) F_178 50 [.ref 172, .ref b, .int (-1), .long (mxL Z i), lDead, .int (nI i), v6] [] (K, I, upr L 173 Z, R, n, s) Q := by
        intro rb; induction rb with
        | zero =>
          intro i v6 hib hvb0
          have hi2b : i = 64 := by omega
          subst hi2b
          refine wp_iload5 (pc' := 52) rfl rfl ?_
          refine wp_bipush (v := nI 64) (pc' := 54) rfl rfl rfl ?_
          refine wp_icmpgeT rfl (nI_nlt (by omega) (by omega)) ?_
          refine wp_lload3 (pc' := 76) rfl rfl ?_
          refine wp_pool (v := .long (308915776)) (pc' := 79) rfl rfl rfl rfl rfl ?_
          refine wp_ladd (pc' := 80) rfl rfl ?_
          refine wp_lconst (v := 1) (pc' := 81) rfl rfl rfl ?_
          refine wp_lsub (pc' := 82) rfl rfl ?_
          refine wp_pool (v := .long (308915776)) (pc' := 85) rfl rfl rfl rfl rfl ?_
          refine wp_ldiv (pc' := 86) rfl (by decide) rfl ?_
          refine wp_lstore5 (pc' := 88) rfl (by first | rfl | assumption) rfl ?_
          refine wp_iload2 (pc' := 89) rfl rfl ?_
          refine wp_ifltT rfl (by decide) ?_
          refine wp_lload5 (pc' := 100) rfl rfl ?_
          refine wp_l2i (pc' := 101) rfl rfl ?_
          refine wp_iret rfl rfl rfl ?_
          exact Qv kk (by rw [hZ]; rfl) (by rw [hZ])
        | succ rb ihb =>
          intro i v6 hib hvb0
          have hltb : i < 64 := by omega
          refine wp_iload5 (pc' := 52) rfl rfl ?_
          refine wp_bipush (v := nI 64) (pc' := 54) rfl rfl rfl ?_
          refine wp_icmpgeF (pc' := 57) rfl (nI_lt (by omega) (by omega)) rfl ?_
          refine wp_lload3 (pc' := 58) rfl rfl ?_
          refine wp_aload0 (pc' := 59) rfl rfl ?_
          refine wp_getRF (pc' := 62) rfl rfl (by first | exact TK.k1 hT rfl | exact TK.kk hT rfl | exact TK.r hT rfl | assumption) (by first | exact TK.k1 hT rfl | exact TK.kk hT rfl | exact TK.r hT rfl | assumption) rfl ?_
          refine wp_iload5 (pc' := 64) rfl rfl ?_
          refine wp_lald i (pc' := 65) rfl (TK.kk hT rfl) rfl (by omega) (by decide) rfl ?_
          rw [upr_same]
          refine wp_maxL (pc' := 68) rfl rfl rfl rfl ?_
          refine wp_lstore3 (pc' := 69) rfl (by first | rfl | assumption) rfl ?_
          first | refine wp_iinc5 (w := nI 1) (pc' := 72) rfl rfl rfl (by with_reducible exact nI_add _ _) rfl ?_ | refine wp_iinc5 (w := nI 1) (pc' := 72) rfl rfl rfl rfl rfl ?_
          refine wp_goto rfl ?_
          exact WP.cg (ihb (i + 1) _ (by omega) (by first | rfl | assumption)) (lC1 (lC1 (lI1 (by rfl) (lL1 (by rfl) (lC1 (lI1 (by rfl) (lC1 rfl))))))) rfl (by rfl)
      exact WP.cg (lp50 (64 - (0)) (0) _ (by omega) (by first | rfl | assumption)) (lC1 (lC1 (lI1 (by rfl) (lL1 (by rfl) (lC1 (lI1 (by rfl) (lC1 rfl))))))) rfl (by rfl)
    | succ r ih =>
      intro i v4 v5 v6 hi hv0 hv1 hv2
      have hlt : i < 25 := by omega
      have hsx : plB (vw b I) H (L 173) (i + 1) = plS (vw b I) H i (plB (vw b I) H (L 173) i) := rfl
      generalize hG : plB (vw b I) H (L 173) i = G at hsx ⊢
      refine wp_iload3 (pc' := 20) rfl rfl ?_
      refine wp_bipush (v := nI 25) (pc' := 22) rfl rfl rfl ?_
      refine wp_icmpgeF (pc' := 25) rfl (nI_lt (by omega) (by omega)) rfl ?_
      refine wp_aload1 (pc' := 26) rfl rfl ?_
      refine wp_iload3 (pc' := 27) rfl rfl ?_
      refine wp_callV2 (pc' := 30) rfl rfl rfl rfl rfl (by first | exact TK.k1 hT rfl | exact TK.kk hT rfl | exact TK.r hT rfl | assumption) rfl rfl ?_
      refine c_isOpen hb (by omega) ?_
      refine Cont.v ?_
      first | refine wp_ifeqB (pc' := 33) rfl rfl ?_ ?_ | refine wp_ifeq (pc' := 33) rfl rfl ?_ ?_
      · intro h30
        first | refine wp_iinc3 (w := nI 1) (pc' := 42) rfl rfl rfl (by with_reducible exact nI_add _ _) rfl ?_ | refine wp_iinc3 (w := nI 1) (pc' := 42) rfl rfl rfl rfl rfl ?_
        refine wp_goto rfl ?_
        exact WP.cg (ih (i + 1) _ _ _ (by omega) (by first | rfl | assumption) (by first | rfl | assumption) (by first | rfl | assumption)) (lC1 (lC1 (lI1 (by with_reducible rfl) (lI1 (by with_reducible rfl) (lC1 (lC1 (lC1 rfl))))))) rfl (by rw [hsx, plS]; first | rw [if_pos h30] | rw [if_neg h30])
      · intro h30
        refine wp_aload0 (pc' := 34) rfl rfl ?_
        refine wp_aload1 (pc' := 35) rfl rfl ?_
        refine wp_iload3 (pc' := 36) rfl rfl ?_
        refine wp_callV3 (pc' := 39) rfl rfl rfl rfl rfl (by first | exact TK.k1 hT rfl | exact TK.kk hT rfl | exact TK.r hT rfl | assumption) rfl rfl ?_
        refine c_giveCell hT hS hb hH hH6 (by omega) ?_
        refine Cont.u ?_
        first | refine wp_iinc3 (w := nI 1) (pc' := 42) rfl rfl rfl (by with_reducible exact nI_add _ _) rfl ?_ | refine wp_iinc3 (w := nI 1) (pc' := 42) rfl rfl rfl rfl rfl ?_
        refine wp_goto rfl ?_
        exact WP.cg (ih (i + 1) _ _ _ (by omega) (by first | rfl | assumption) (by first | rfl | assumption) (by first | rfl | assumption)) (lC1 (lC1 (lI1 (by with_reducible rfl) (lI1 (by with_reducible rfl) (lC1 (lC1 (lC1 rfl))))))) rfl (by rw [hsx, plS]; first | rw [if_pos h30] | rw [if_neg h30])
  exact WP.cg (lp19 (25 - (0)) (0) _ _ _ (by omega) (by first | rfl | assumption) (by first | rfl | assumption) (by first | rfl | assumption)) (lC1 (lC1 (lI1 (by rfl) (lI1 (by rfl) (lC1 (lC1 (lC1 rfl))))))) rfl (by exact mL1 (by rw [up2_upr]; rfl))
theorem c_placeH {d : Nat} {K : Nat → Nat × Nat} {I : Nat → Nat → Int32} {L : Nat → Nat → Int64} {R : Nat → Nat → Option Nat} {n s : Nat} {Q : Lo → Lm → Prop} {b H h : Nat} (hT : TK K R n) (hS : TS K L) (hb : StK K R n b) (hH : I b 10 = nI H) (hH6 : H ≤ 6) (hh : h < 6) (kk : Q (.inl (some (.int (plV (mxL (plB (vw b I) H (L 173) 25) 64) h)))) (K, I, upr L 173 (plB (vw b I) H (L 173) 25), R, n, s)) : Ok (d + 3) 178 [.ref 172, .ref b, .int (nI h)] (K, I, L, R, n, s) Q := by
  obtain ⟨-, -, hn⟩ := id hT
  obtain ⟨k0, k1, k2, k3, k4, k5, k6, k7, k8, k9, k10, k11, r0, r1, r2, r3, r4, r5, r6, r7, r8, r9, r10, hbn⟩ := id hb
  refine Ok.enter (F := F_178) (ls := [.ref 172, .ref b, .int (nI h), lDead, lDead, lDead, lDead]) rfl rfl ?_
  refine wp_aload0 (pc' := 1) rfl rfl ?_
  refine wp_getRF (pc' := 4) rfl rfl (by first | exact TK.k1 hT rfl | exact TK.kk hT rfl | exact TK.r hT rfl | assumption) (by first | exact TK.k1 hT rfl | exact TK.kk hT rfl | exact TK.r hT rfl | assumption) rfl ?_
  refine wp_pool (v := .long (-1)) (pc' := 7) rfl rfl rfl rfl rfl ?_
  refine wp_callS2 (pc' := 10) rfl rfl rfl rfl rfl rfl ?_
  refine c_fillL (w := 64) (TK.kk hT rfl) (by decide) (by omega) ?_
  refine Cont.u ?_
  skip
  refine wp_aload0 (pc' := 11) rfl rfl ?_
  refine wp_getRF (pc' := 14) rfl rfl (by first | exact TK.k1 hT rfl | exact TK.kk hT rfl | exact TK.r hT rfl | assumption) (by first | exact TK.k1 hT rfl | exact TK.kk hT rfl | exact TK.r hT rfl | assumption) rfl ?_
  refine wp_iconst (v := nI 0) (pc' := 15) rfl rfl rfl ?_
  refine wp_lconst (v := 0) (pc' := 16) rfl rfl rfl ?_
  refine wp_last _ (pc' := 17) rfl (by first | exact TK.k1 hT rfl | exact TK.kk hT rfl | exact TK.r hT rfl | assumption) (by omega) (by with_reducible rfl) (by omega) (by first | decide | assumption | omega) rfl ?_
  refine wp_iconst (v := nI 0) (pc' := 18) rfl rfl rfl ?_
  refine wp_istore3 (pc' := 19) rfl (by first | rfl | assumption) rfl ?_
  have lp19 : ∀ r (i : Nat) (v4 : Value) (v5 : Value) (v6 : Value), i + r = 25 → isL v4 = false → isL v5 = false → isL v6 = false → WP (d + 2) F_178 19 [.ref 172, .ref b, .int (nI h), .int (nI i), v4, v5, v6] [] (K, I, upr L 173 (plB (vw b I) H (L 173) i), R, n, s) Q := by
    intro r; induction r with
    | zero =>
      intro i v4 v5 v6 hi hv0 hv1 hv2
      have hi2 : i = 25 := by omega
      subst hi2
      refine wp_iload3 (pc' := 20) rfl rfl ?_
      refine wp_bipush (v := nI 25) (pc' := 22) rfl rfl rfl ?_
      refine wp_icmpgeT rfl (nI_nlt (by omega) (by omega)) ?_
      generalize hZ : plB (vw b I) H (L 173) 25 = Z
      refine wp_lconst (v := 0) (pc' := 46) rfl rfl rfl ?_
      refine wp_lstore3 (pc' := 47) rfl (by first | rfl | assumption) rfl ?_
      refine wp_iconst (v := nI 0) (pc' := 48) rfl rfl rfl ?_
      refine wp_istore5 (pc' := 50) rfl (by first | rfl | assumption) rfl ?_
      have lp50 : ∀ rb (i : Nat) (v6 : Value), i + rb = 64 → isL v6 = false → WP (d + 2) F_178 50 [.ref 172, .ref b, .int (nI h), .long (mxL Z i), lDead, .int (nI i), v6] [] (K, I, upr L 173 Z, R, n, s) Q := by
        intro rb; induction rb with
        | zero =>
          intro i v6 hib hvb0
          have hi2b : i = 64 := by omega
          subst hi2b
          refine wp_iload5 (pc' := 52) rfl rfl ?_
          refine wp_bipush (v := nI 64) (pc' := 54) rfl rfl rfl ?_
          refine wp_icmpgeT rfl (nI_nlt (by omega) (by omega)) ?_
          refine wp_lload3 (pc' := 76) rfl rfl ?_
          refine wp_pool (v := .long (308915776)) (pc' := 79) rfl rfl rfl rfl rfl ?_
          refine wp_ladd (pc' := 80) rfl rfl ?_
          refine wp_lconst (v := 1) (pc' := 81) rfl rfl rfl ?_
          refine wp_lsub (pc' := 82) rfl rfl ?_
          refine wp_pool (v := .long (308915776)) (pc' := 85) rfl rfl rfl rfl rfl ?_
          refine wp_ldiv (pc' := 86) rfl (by decide) rfl ?_
          refine wp_lstore5 (pc' := 88) rfl (by first | rfl | assumption) rfl ?_
          refine wp_iload2 (pc' := 89) rfl rfl ?_
          refine wp_ifltF (pc' := 92) rfl (nI_pos (by omega)) rfl ?_
          refine wp_iload2 (pc' := 93) rfl rfl ?_
          refine wp_bipush (v := nI 6) (pc' := 95) rfl rfl rfl ?_
          refine wp_icmpltT rfl (nI_lt (by omega) (by decide)) ?_
          refine wp_lload5 (pc' := 104) rfl rfl ?_
          refine wp_pool (v := .long (308915776)) (pc' := 107) rfl rfl rfl rfl rfl ?_
          refine wp_lmul (pc' := 108) rfl rfl ?_
          refine wp_lload3 (pc' := 109) rfl rfl ?_
          refine wp_lsub (pc' := 110) rfl rfl ?_
          refine wp_pool (v := .ref (lmB + 1000)) (pc' := 113) rfl rfl rfl rfl rfl ?_
          refine wp_iload2 (pc' := 114) rfl rfl ?_
          refine wp_lald h (pc' := 115) rfl (hS.1 0 (by decide)) rfl (by omega) (by decide) rfl ?_
          rw [TS_cd (TS_upr hS)]
          refine wp_ldiv (pc' := 116) rfl (cd_ne hh).1 rfl ?_
          refine wp_pool (v := .long (26)) (pc' := 119) rfl rfl rfl rfl rfl ?_
          refine wp_lrem (pc' := 120) rfl (by decide) rfl ?_
          refine wp_l2i (pc' := 121) rfl rfl ?_
          refine wp_iconst (v := nI 1) (pc' := 122) rfl rfl rfl ?_
          first | refine wp_isubN (pc' := 123) rfl (by with_reducible rfl) (by with_reducible rfl) (by omega) rfl ?_ | refine wp_isub (pc' := 123) rfl rfl ?_
          refine wp_iret rfl rfl rfl ?_
          exact Qv kk (by rw [hZ]; rfl) (by rw [hZ])
        | succ rb ihb =>
          intro i v6 hib hvb0
          have hltb : i < 64 := by omega
          refine wp_iload5 (pc' := 52) rfl rfl ?_
          refine wp_bipush (v := nI 64) (pc' := 54) rfl rfl rfl ?_
          refine wp_icmpgeF (pc' := 57) rfl (nI_lt (by omega) (by omega)) rfl ?_
          refine wp_lload3 (pc' := 58) rfl rfl ?_
          refine wp_aload0 (pc' := 59) rfl rfl ?_
          refine wp_getRF (pc' := 62) rfl rfl (by first | exact TK.k1 hT rfl | exact TK.kk hT rfl | exact TK.r hT rfl | assumption) (by first | exact TK.k1 hT rfl | exact TK.kk hT rfl | exact TK.r hT rfl | assumption) rfl ?_
          refine wp_iload5 (pc' := 64) rfl rfl ?_
          refine wp_lald i (pc' := 65) rfl (TK.kk hT rfl) rfl (by omega) (by decide) rfl ?_
          rw [upr_same]
          refine wp_maxL (pc' := 68) rfl rfl rfl rfl ?_
          refine wp_lstore3 (pc' := 69) rfl (by first | rfl | assumption) rfl ?_
          first | refine wp_iinc5 (w := nI 1) (pc' := 72) rfl rfl rfl (by with_reducible exact nI_add _ _) rfl ?_ | refine wp_iinc5 (w := nI 1) (pc' := 72) rfl rfl rfl rfl rfl ?_
          refine wp_goto rfl ?_
          exact WP.cg (ihb (i + 1) _ (by omega) (by first | rfl | assumption)) (lC1 (lC1 (lI1 (by rfl) (lL1 (by rfl) (lC1 (lI1 (by rfl) (lC1 rfl))))))) rfl (by rfl)
      exact WP.cg (lp50 (64 - (0)) (0) _ (by omega) (by first | rfl | assumption)) (lC1 (lC1 (lI1 (by rfl) (lL1 (by rfl) (lC1 (lI1 (by rfl) (lC1 rfl))))))) rfl (by rfl)
    | succ r ih =>
      intro i v4 v5 v6 hi hv0 hv1 hv2
      have hlt : i < 25 := by omega
      have hsx : plB (vw b I) H (L 173) (i + 1) = plS (vw b I) H i (plB (vw b I) H (L 173) i) := rfl
      generalize hG : plB (vw b I) H (L 173) i = G at hsx ⊢
      refine wp_iload3 (pc' := 20) rfl rfl ?_
      refine wp_bipush (v := nI 25) (pc' := 22) rfl rfl rfl ?_
      refine wp_icmpgeF (pc' := 25) rfl (nI_lt (by omega) (by omega)) rfl ?_
      refine wp_aload1 (pc' := 26) rfl rfl ?_
      refine wp_iload3 (pc' := 27) rfl rfl ?_
      refine wp_callV2 (pc' := 30) rfl rfl rfl rfl rfl (by first | exact TK.k1 hT rfl | exact TK.kk hT rfl | exact TK.r hT rfl | assumption) rfl rfl ?_
      refine c_isOpen hb (by omega) ?_
      refine Cont.v ?_
      first | refine wp_ifeqB (pc' := 33) rfl rfl ?_ ?_ | refine wp_ifeq (pc' := 33) rfl rfl ?_ ?_
      · intro h30
        first | refine wp_iinc3 (w := nI 1) (pc' := 42) rfl rfl rfl (by with_reducible exact nI_add _ _) rfl ?_ | refine wp_iinc3 (w := nI 1) (pc' := 42) rfl rfl rfl rfl rfl ?_
        refine wp_goto rfl ?_
        exact WP.cg (ih (i + 1) _ _ _ (by omega) (by first | rfl | assumption) (by first | rfl | assumption) (by first | rfl | assumption)) (lC1 (lC1 (lI1 (by with_reducible rfl) (lI1 (by with_reducible rfl) (lC1 (lC1 (lC1 rfl))))))) rfl (by rw [hsx, plS]; first | rw [if_pos h30] | rw [if_neg h30])
      · intro h30
        refine wp_aload0 (pc' := 34) rfl rfl ?_
        refine wp_aload1 (pc' := 35) rfl rfl ?_
        refine wp_iload3 (pc' := 36) rfl rfl ?_
        refine wp_callV3 (pc' := 39) rfl rfl rfl rfl rfl (by first | exact TK.k1 hT rfl | exact TK.kk hT rfl | exact TK.r hT rfl | assumption) rfl rfl ?_
        refine c_giveCell hT hS hb hH hH6 (by omega) ?_
        refine Cont.u ?_
        first | refine wp_iinc3 (w := nI 1) (pc' := 42) rfl rfl rfl (by with_reducible exact nI_add _ _) rfl ?_ | refine wp_iinc3 (w := nI 1) (pc' := 42) rfl rfl rfl rfl rfl ?_
        refine wp_goto rfl ?_
        exact WP.cg (ih (i + 1) _ _ _ (by omega) (by first | rfl | assumption) (by first | rfl | assumption) (by first | rfl | assumption)) (lC1 (lC1 (lI1 (by with_reducible rfl) (lI1 (by with_reducible rfl) (lC1 (lC1 (lC1 rfl))))))) rfl (by rw [hsx, plS]; first | rw [if_pos h30] | rw [if_neg h30])
  exact WP.cg (lp19 (25 - (0)) (0) _ _ _ (by omega) (by first | rfl | assumption) (by first | rfl | assumption) (by first | rfl | assumption)) (lC1 (lC1 (lI1 (by rfl) (lI1 (by rfl) (lC1 (lC1 (lC1 rfl))))))) rfl (by exact mL1 (by rw [up2_upr]; rfl))
