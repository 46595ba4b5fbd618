/-! A TEXT OF THE BOG -/
theorem num_none {tv : Nat → Nat} {T p : Nat} {lw up : Int32} (hp : p ≤ T) (h : numV (numR tv T p lw up) = -1) : numR tv T p lw up = none := by
  cases e : numR tv T p lw up with
  | none => rfl
  | some x =>
    rw [e] at h
    unfold numR at e
    split at e
    · cases e
    · cases e
      exact absurd h (nI_nm1 (by have := (dgN_lt (tv := tv) hp).2.2; omega))
theorem num_some {tv : Nat → Nat} {T p : Nat} {lw up : Int32} (hp : p ≤ T) (h : ¬ numV (numR tv T p lw up) = -1) : ∃ v q, numR tv T p lw up = some (v, q) ∧ v < 10000 ∧ ¬ nI v < lw ∧ ¬ up < nI v ∧ p ≤ q ∧ q ≤ T := by
  cases e : numR tv T p lw up with
  | none => rw [e] at h; exact absurd rfl h
  | some x =>
    obtain ⟨v, q⟩ := x
    have hl := numR_le (tv := tv) (lw := lw) (up := up) hp
    rw [e] at hl
    have e2 := e
    unfold numR at e
    split at e
    · cases e
    · rename_i hn
      cases e
      exact ⟨_, _, rfl, (dgN_lt (tv := tv) hp).2.2, fun z => hn (Or.inr (Or.inr (Or.inl z))), fun z => hn (Or.inr (Or.inr (Or.inr z))), hl.1, hl.2⟩
theorem rdM_up2 {I : Mem} {p a k : Nat} {v : Int32} (h : a ≠ 39) : up2 (rdM I p) a k v = rdM (up2 I a k v) p := by
  funext i j
  by_cases h1 : i = a
  · subst h1
    rw [up2_same, rdM_o h, rdM_o h, up2_same]
  · rw [up2_row h1]
    by_cases h2 : i = 39
    · subst h2; unfold rdM; rw [up2_same, up2_same, up2_row h1]
    · rw [rdM_o h2, rdM_o h2, up2_row h1]
theorem RdI_up2 {I : Mem} {T a k : Nat} {tv : Nat → Nat} {v : Int32} (h : RdI I T tv) (h1 : a ≠ 38) (h2 : a ≠ 39) : RdI (up2 I a k v) T tv :=
  ⟨by rw [up2_row (fun e => h2 e.symm)]; exact h.1, h.2.1, fun j hj => by rw [up2_row (fun e => h1 e.symm)]; exact h.2.2.1 j hj, h.2.2.2⟩
theorem SS_up2 {K : Nat → Nat × Nat} {I : Mem} {R : Nat → Nat → Option Nat} {a k : Nat} {v : Int32} (h : SS K I R) (ha : a < lmB) : SS K (up2 I a k v) R := SS_off h (fun b hb => up2_row (by omega))
def atD (tv : Nat → Nat) (T p : Nat) : Prop := p < T ∧ 48 ≤ tv p ∧ tv p ≤ 57
abbrev atDg (tv : Nat → Nat) (T p : Nat) : Prop := p < T ∧ 48 ≤ tv p ∧ tv p ≤ 57
/-- takeOneOf: which word, and where it goes on -/
def wd (tv : Nat → Nat) (T p : Nat) (Ws : List (List Nat)) : Option Nat := pickW tv p (letN tv T p) Ws 0
def af (tv : Nat → Nat) (T p : Nat) : Nat := skp tv T (p + letN tv T p)
theorem af_ge {tv : Nat → Nat} {T p : Nat} (h : p ≤ T) : p ≤ af tv T p ∧ af tv T p ≤ T := by
  have h1 := letN_le (tv := tv) (T := T) (p := p)
  have h2 := skp_ge (tv := tv) (T := T) (p := p + letN tv T p) (by omega)
  unfold af; omega
def okWs (Ws : List (List Nat)) : Bool := Ws.all (fun w => !w.isEmpty && w.all (fun c => !(Nat.beq c 32))) && !Ws.isEmpty
theorem okWs_spec {Ws : List (List Nat)} (h : okWs Ws = true) : (∀ w ∈ Ws, w ≠ [] ∧ ∀ c ∈ w, c ≠ 32) ∧ Ws ≠ [] := by
  unfold okWs at h
  obtain ⟨h1, h2⟩ := Bool.and_eq_true_iff.mp h
  refine ⟨fun w hw => ?_, fun e => by subst e; cases h2⟩
  obtain ⟨h3, h4⟩ := Bool.and_eq_true_iff.mp (List.all_eq_true.mp h1 w hw)
  refine ⟨fun e => by (subst e; cases h3), fun c hc e => ?_⟩
  have := List.all_eq_true.mp h4 c hc
  subst e
  cases this
theorem c_pick {d : Nat} {K : Nat → Nat × Nat} {I : Mem} {L : Nat → Nat → Int64} {R : Nat → Nat → Option Nat} {n s : Nat} {Q : Lo → Lm → Prop} {T p w : Nat} {tv : Nat → Nat} (Ws : List (List Nat)) (hT : TK K R n) (hR : RdI I T tv) (hS : SS K I R) (hw : w < 57) (hWs : okWs Ws = true) (hj : sB w = joinW Ws) (hp : p ≤ T) (kk0 : wd tv T p Ws = none → Q (.inl (some (.int (-1)))) (K, rdM I p, L, R, n, s))
    (kk : ∀ k, wd tv T p Ws = some k → Q (.inl (some (.int (nI k)))) (K, rdM I (af tv T p), L, R, n, s)) : Ok (d + 4) 72 [.ref 39, .ref (lmB + 2 * w)] (K, rdM I p, L, R, n, s) Q := by
  have hl := letN_le (tv := tv) (T := T) (p := p)
  have e : scX tv p (letN tv T p) (sB w) 0 0 (nI 0) = wd tv T p Ws := by
    unfold scX; rw [if_pos (Nat.zero_le _), hj]
    exact scn_pick (by have := hR.2.1; omega) Ws 0 (okWs_spec hWs).1 (okWs_spec hWs).2
  refine c_oneOf hT hR hS hw hp (fun h => kk0 (e ▸ h)) (fun k h => kk k (e ▸ h))
def isWd (tv : Nat → Nat) (T p : Nat) (w : List Nat) : Prop := letN tv T p = w.length ∧ eqW tv p w = true
theorem wd_1 {tv : Nat → Nat} {T p : Nat} {w : List Nat} : wd tv T p [w] = if letN tv T p = w.length ∧ eqW tv p w = true then some 0 else none := by
  unfold wd pickW pickW; rfl
abbrev wdB (tv : Nat → Nat) (T p : Nat) (w : List Nat) : Bool := decide (letN tv T p = w.length) && eqW tv p w
theorem wd_t {tv : Nat → Nat} {T p : Nat} {w : List Nat} (h : wdB tv T p w = true) : wd tv T p [w] = some 0 := by
  obtain ⟨h1, h2⟩ := Bool.and_eq_true_iff.mp h
  rw [wd_1, if_pos ⟨of_decide_eq_true h1, h2⟩]
theorem wd_f {tv : Nat → Nat} {T p : Nat} {w : List Nat} (h : ¬ wdB tv T p w = true) : wd tv T p [w] = none := by
  rw [wd_1, if_neg (fun q => h (Bool.and_eq_true_iff.mpr ⟨decide_eq_true q.1, q.2⟩))]
/-- behind a word, if it is that one -/
def afB (tv : Nat → Nat) (T p : Nat) (w : List Nat) : Nat := if wdB tv T p w = true then af tv T p else p
def skyT (k : Nat) : Nat := if k = 6 then 9 else if k = 7 then 100 else 999
def skyC (k : Nat) : Nat := if k = 6 then 12 else if k = 7 then 13 else 15
def skyF (tv : Nat → Nat) (T : Nat) (I : Mem) (p k : Nat) : Bool × Mem × Nat := match numR tv T p (nI 0) (nI (skyT k)) with
  | none => (false, I, p)
  | some x => (true, up2 I 13 (skyC k) (nI x.1), x.2)
def rowF (tv : Nat → Nat) (T a : Nat) : Nat → Nat → Mem → Nat → Bool × Mem × Nat
  | 0, _, I, p => (false, I, p)
  | f + 1, c, I, p => match numR tv T p (nI 0) (nI 9) with
    | none => (false, I, p)
    | some x => if atDg tv T x.2 then rowF tv T a f (c + 1) (up2 I a c (nI x.1)) x.2 else (true, up2 I a c (nI x.1), x.2)
def rowL (tv : Nat → Nat) (T a : Nat) (I : Mem) (p : Nat) : Bool × Mem × Nat := match numR tv T p (nI 0) (nI 24) with
  | none => (false, I, p)
  | some x => rowF tv T a (25 - x.1) x.1 I x.2
def celF (tv : Nat → Nat) (T : Nat) : Nat → Int32 → Nat → Option Int32 × Nat
  | 0, _, p => (none, p)
  | f + 1, x, p => match numR tv T p (nI 0) (nI 24) with
    | none => (none, p)
    | some y => if atDg tv T y.2 then celF tv T f (x ||| jshl (nI 1) (nI y.1)) y.2 else (some (x ||| jshl (nI 1) (nI y.1)), y.2)
def celV (q : Option Int32) : Int32 := match q with
  | none => -1
  | some x => x
theorem i32_or_and {x y z : Int32} : (x ||| y) &&& z = (x &&& z) ||| (y &&& z) := Int32.toBitVec_inj.1 BitVec.and_or_distrib_right
def low25 (x : Int32) : Prop := x &&& nI 33554431 = x
theorem low25_1 : ∀ c : Fin 25, low25 (jshl (nI 1) (nI c.1)) := by unfold low25; decide +kernel
theorem low25_or {x y : Int32} (hx : low25 x) (hy : low25 y) : low25 (x ||| y) := by
  unfold low25 at *
  rw [i32_or_and, hx, hy]
theorem low25_ne {x : Int32} (hx : low25 x) : ¬ x = -1 := fun e => by subst e; exact absurd hx (by unfold low25; decide)
theorem celF_low {tv : Nat → Nat} {T : Nat} : ∀ f x p, low25 x → p ≤ T → (∀ y, (celF tv T f x p).1 = some y → low25 y) ∧ p ≤ (celF tv T f x p).2 ∧ (celF tv T f x p).2 ≤ T
  | 0, x, p, _, hp => ⟨fun y h => (by cases h), Nat.le_refl _, hp⟩
  | f + 1, x, p, hx, hp => by
    unfold celF
    by_cases h : numV (numR tv T p (nI 0) (nI 24)) = -1
    · rw [num_none hp h]; exact ⟨fun y h => (by cases h), Nat.le_refl _, hp⟩
    · obtain ⟨v, q, e, hv, hlo, hup, hq1, hq2⟩ := num_some hp h
      rw [e]; dsimp only
      have hl : low25 (x ||| jshl (nI 1) (nI v)) := low25_or hx (low25_1 ⟨v, by have := ge_nI hup (by omega); omega⟩)
      by_cases hd : atDg tv T q
      · rw [if_pos hd]
        have := celF_low (tv := tv) f _ q hl hq2
        exact ⟨this.1, by omega, this.2.2⟩
      · rw [if_neg hd]
        exact ⟨fun y h => (by cases h; exact hl), hq1, hq2⟩
def celL (tv : Nat → Nat) (T p : Nat) : Option Int32 × Nat := celF tv T 8 (nI 0) p
theorem celL_none {tv : Nat → Nat} {T p : Nat} (hp : p ≤ T) (h : celV (celL tv T p).1 = -1) : (celL tv T p).1 = none := by
  cases e : (celL tv T p).1 with
  | none => rfl
  | some x => rw [e] at h; exact absurd h (low25_ne ((celF_low 8 (nI 0) p (by unfold low25; decide) hp).1 x e))
theorem celL_some {tv : Nat → Nat} {T p : Nat} (h : ¬ celV (celL tv T p).1 = -1) : ∃ x, (celL tv T p).1 = some x := by
  cases e : (celL tv T p).1 with
  | none => rw [e] at h; exact absurd rfl h
  | some x => exact ⟨x, rfl⟩
theorem celL_le {tv : Nat → Nat} {T p : Nat} (hp : p ≤ T) : p ≤ (celL tv T p).2 ∧ (celL tv T p).2 ≤ T := (celF_low 8 (nI 0) p (by unfold low25; decide) hp).2
def drnL (tv : Nat → Nat) (T : Nat) (I : Mem) (p : Nat) : Bool × Mem × Nat := match (celL tv T p).1 with
  | none => (false, I, (celL tv T p).2)
  | some x => (true, up2 I 13 11 (I 13 11 ||| x), (celL tv T p).2)
def rgtL (tv : Nat → Nat) (T : Nat) (I : Mem) (p : Nat) : Bool × Mem × Nat := match numR tv T p (nI 0) (I 13 10 - nI 1) with
  | none => (false, I, p)
  | some y => (match (celL tv T y.2).1 with
    | none => (false, I, (celL tv T y.2).2)
    | some x => (true, up2 I 22 y.1 (I 22 y.1 ||| x), (celL tv T y.2).2))
def kDry : List Nat := [100, 114, 121]
def kHands : List Nat := [104, 97, 110, 100, 115]
def kNeed : List Nat := [110, 101, 101, 100]
def kStore : List Nat := [115, 116, 111, 114, 101]
/-- a number behind a word that may stand there, else d -/
def optN (tv : Nat → Nat) (T p : Nat) (w : List Nat) (up : Nat) : Option (Nat × Nat) := if wdB tv T p w = true then numR tv T (af tv T p) (nI 0) (nI up) else some (0, p)
def turL (tv : Nat → Nat) (T : Nat) (I : Mem) (p : Nat) : Bool × Mem × Nat := match numR tv T p (nI 0) (nI 24) with
  | none => (false, I, p)
  | some c => (match numR tv T c.2 (nI 1) (nI 99) with
    | none => (false, I, c.2)
    | some m => (match optN tv T m.2 kDry 99 with
      | none => (false, I, afB tv T m.2 kDry)
      | some y => (true, up2 (up2 (up2 I 16 c.1 (nI m.1)) 17 c.1 (nI y.1)) 18 c.1 (nI 0), y.2)))
/-- a number behind a word that must stand there -/
def mstN (tv : Nat → Nat) (T p : Nat) (w : List Nat) (lw : Int32) (up : Nat) : Option (Nat × Nat) := if wdB tv T p w = true then numR tv T (af tv T p) lw (nI up) else none
def heaL (tv : Nat → Nat) (T : Nat) (I : Mem) (b0 p H : Nat) : Bool × Mem × Nat := if 6 ≤ H then (false, I, b0) else match mstN tv T p kHands (nI 1) 9 with
  | none => (false, I, afB tv T p kHands)
  | some h => (match mstN tv T h.2 kNeed (nI 0) 99 with
    | none => (false, I, afB tv T h.2 kNeed)
    | some m => (match optN tv T m.2 kStore 999 with
      | none => (false, I, afB tv T m.2 kStore)
      | some y => (true, up2 (up2 (up2 (up2 I 19 H (nI h.1)) 20 H (nI m.1)) 21 H (nI y.1)) 13 10 (nI (H + 1)), y.2)))
theorem m1_lt {v : Nat} (h : v < 2 ^ 31) : nI 0 - nI 1 < nI v := by
  have h1 : nI 0 - nI 1 < nI 0 := by decide
  by_cases e : v = 0
  · subst e; exact h1
  · exact Int32.lt_trans h1 (nI_lt (by omega) h)
theorem afB_le {tv : Nat → Nat} {T p : Nat} {w : List Nat} (h : p ≤ T) : p ≤ afB tv T p w ∧ afB tv T p w ≤ T := by
  unfold afB; split
  · exact af_ge h
  · exact ⟨Nat.le_refl _, h⟩
theorem afB_t {tv : Nat → Nat} {T p : Nat} {w : List Nat} (h : wdB tv T p w = true) : afB tv T p w = af tv T p := if_pos h
theorem afB_f {tv : Nat → Nat} {T p : Nat} {w : List Nat} (h : ¬ wdB tv T p w = true) : afB tv T p w = p := if_neg h
theorem optN_t {tv : Nat → Nat} {T p up : Nat} {w : List Nat} (h : wdB tv T p w = true) : optN tv T p w up = numR tv T (af tv T p) (nI 0) (nI up) := if_pos h
theorem optN_f {tv : Nat → Nat} {T p up : Nat} {w : List Nat} (h : ¬ wdB tv T p w = true) : optN tv T p w up = some (0, p) := if_neg h
theorem mstN_t {tv : Nat → Nat} {T p up : Nat} {lw : Int32} {w : List Nat} (h : wdB tv T p w = true) : mstN tv T p w lw up = numR tv T (af tv T p) lw (nI up) := if_pos h
theorem mstN_f {tv : Nat → Nat} {T p up : Nat} {lw : Int32} {w : List Nat} (h : ¬ wdB tv T p w = true) : mstN tv T p w lw up = none := if_neg h
def bogW : List (List Nat) := [[112, 101, 97, 116], [119, 97, 116, 101, 114], [100, 114, 97, 105, 110], [116, 117, 114, 118, 101, 115], [104, 101, 97, 114, 116, 104], [114, 105, 103, 104, 116], [115, 117, 110], [115, 104, 111, 119, 101, 114], [114, 97, 105, 110], [100, 97, 121]]
def linL (tv : Nat → Nat) (T : Nat) (I : Mem) (p H : Nat) : Bool × Mem × Nat := match wd tv T p bogW with
  | none => (false, I, p)
  | some 0 => rowL tv T 14 I (af tv T p)
  | some 1 => rowL tv T 15 I (af tv T p)
  | some 2 => drnL tv T I (af tv T p)
  | some 3 => turL tv T I (af tv T p)
  | some 4 => heaL tv T I p (af tv T p) H
  | some 5 => rgtL tv T I (af tv T p)
  | some 8 => (true, up2 I 13 14 (nI 1), af tv T p)
  | some k => skyF tv T I (af tv T p) k
theorem pickW_lt {tv : Nat → Nat} {P sz : Nat} : ∀ (Ws : List (List Nat)) (k j : Nat), pickW tv P sz Ws k = some j → k ≤ j ∧ j < k + Ws.length
  | [], _, _, h => by cases h
  | w :: r, k, j, h => by
    unfold pickW at h
    split at h
    · cases h; simp
    · have := pickW_lt r (k + 1) j h
      rw [List.length_cons]; omega

theorem c_word {d : Nat} {K : Nat → Nat × Nat} {I : Mem} {L : Nat → Nat → Int64} {R : Nat → Nat → Option Nat} {n s : Nat} {Q : Lo → Lm → Prop} {T p w : Nat} {tv : Nat → Nat} (W : List Nat) (hT : TK K R n) (hR : RdI I T tv) (hS : SS K I R) (hw : w < 57) (hWs : okWs [W] = true) (hj : sB w = W) (hp : p ≤ T) (kk : Q (.inl (some (.int (if wdB tv T p W = true then nI 1 else nI 0)))) (K, rdM I (afB tv T p W), L, R, n, s)) : Ok (d + 5) 90 [.ref 39, .ref (lmB + 2 * w)] (K, rdM I p, L, R, n, s) Q := by
  refine Ok.enter (F := F_90) (ls := [.ref 39, .ref (lmB + 2 * w)]) rfl rfl ?_
  refine wp_aload0 (pc' := 1) rfl rfl ?_
  refine wp_aload1 (pc' := 2) rfl rfl ?_
  refine wp_callV2 (pc' := 5) rfl rfl rfl rfl rfl (TK.k1 hT rfl) rfl rfl ?_
  refine c_pick [W] hT hR hS hw hWs hj hp (fun h => ?_) (fun k h => ?_)
  · have hf : ¬ wdB tv T p W = true := fun q => by rw [wd_t q] at h; cases h
    refine Cont.v ?_
    refine wp_ifneT rfl (by decide) ?_
    refine wp_iconst (v := nI 0) (pc' := 13) rfl rfl rfl ?_
    refine wp_iret rfl rfl rfl ?_
    unfold afB at kk
    rw [if_neg hf, if_neg hf] at kk; exact kk
  · have ht : wdB tv T p W = true := by
      cases q : wdB tv T p W with
      | true => rfl
      | false => rw [wd_f (by rw [q]; decide)] at h; cases h
    rw [wd_t ht] at h
    cases h
    refine Cont.v ?_
    refine wp_ifneF (pc' := 8) rfl rfl rfl ?_
    refine wp_iconst (v := nI 1) (pc' := 9) rfl rfl rfl ?_
    refine wp_goto rfl ?_
    refine wp_iret rfl rfl rfl ?_
    unfold afB at kk
    rw [if_pos ht, if_pos ht] at kk; exact kk
theorem c_sky6 {d : Nat} {K : Nat → Nat × Nat} {I : Nat → Nat → Int32} {L : Nat → Nat → Int64} {R : Nat → Nat → Option Nat} {n s : Nat} {Q : Lo → Lm → Prop} {T p : Nat} {tv : Nat → Nat} (hT : TK K R n) (hR : RdI I T tv) (hp : p ≤ T) (kk : ∀ b J q, skyF tv T I p 6 = (b, J, q) → Q (.inl (some (.int (if b = true then nI 1 else nI 0)))) (K, rdM J q, L, R, n, s)) : Ok (d + 3) 93 [.ref 40, .int (nI 6)] (K, rdM (I) (p), L, R, n, s) Q := by
  obtain ⟨-, -, hn⟩ := id hT
  obtain ⟨hL, hT4, htv, htl⟩ := id hR
  refine Ok.enter (F := F_93) (ls := [.ref 40, .int (nI 6), lDead]) rfl rfl ?_
  refine wp_iload1 (pc' := 1) rfl rfl ?_
  refine wp_bipush (v := nI 8) (pc' := 3) rfl rfl rfl ?_
  refine wp_icmpneT rfl (by decide) ?_
  refine wp_iload1 (pc' := 17) rfl rfl ?_
  refine wp_bipush (v := nI 6) (pc' := 19) rfl rfl rfl ?_
  refine wp_icmpeqT rfl rfl ?_
  refine wp_aload0 (pc' := 37) rfl rfl ?_
  refine wp_getRF (pc' := 40) rfl rfl (by first | exact TK.k1 hT rfl | exact TK.kk hT rfl | exact TK.r hT rfl | assumption) (by first | exact TK.k1 hT rfl | exact TK.kk hT rfl | exact TK.r hT rfl | assumption) rfl ?_
  refine wp_iconst (v := nI 0) (pc' := 41) rfl rfl rfl ?_
  refine wp_iload1 (pc' := 42) rfl rfl ?_
  refine wp_bipush (v := nI 6) (pc' := 44) rfl rfl rfl ?_
  refine wp_icmpneF (pc' := 47) rfl rfl rfl ?_
  refine wp_bipush (v := nI 9) (pc' := 49) rfl rfl rfl ?_
  refine wp_goto rfl ?_
  refine wp_callV3 (pc' := 69) rfl rfl rfl rfl rfl (by first | exact TK.k1 hT rfl | exact TK.kk hT rfl | exact TK.r hT rfl | assumption) rfl rfl ?_
  refine c_takeNumber hT hR hp ?_
  refine Cont.v ?_
  refine wp_istore2 (pc' := 70) rfl (by first | rfl | assumption) rfl ?_
  refine wp_iload2 (pc' := 71) rfl rfl ?_
  refine wp_iconst (v := (-1)) (pc' := 72) rfl rfl rfl ?_
  refine wp_icmpne (pc' := 75) rfl rfl ?_ ?_
  · intro h72
    obtain ⟨v, q, ev, hlv, hlov, hupv, hqva, hqvb⟩ := num_some hp h72
    rw [ev]
    dsimp only [numV, numP]
    refine wp_iload1 (pc' := 78) rfl rfl ?_
    refine wp_bipush (v := nI 6) (pc' := 80) rfl rfl rfl ?_
    refine wp_icmpneF (pc' := 83) rfl rfl rfl ?_
    refine wp_aload0 (pc' := 84) rfl rfl ?_
    refine wp_getRF (pc' := 87) rfl rfl (by first | exact TK.k1 hT rfl | exact TK.kk hT rfl | exact TK.r hT rfl | assumption) (by first | exact TK.k1 hT rfl | exact TK.kk hT rfl | exact TK.r hT rfl | assumption) rfl ?_
    refine wp_iload2 (pc' := 88) rfl rfl ?_
    refine wp_putI (pc' := 91) rfl rfl (by first | exact TK.k1 hT rfl | exact TK.kk hT rfl | exact TK.r hT rfl | assumption) (by omega) rfl ?_
    refine wp_goto rfl ?_
    rw [rdM_up2 (by decide)]
    refine wp_iconst (v := nI 1) (pc' := 120) rfl rfl rfl ?_
    refine wp_iret rfl rfl (by first | rfl | exact nar_if) ?_
    exact kk true _ _ (by unfold skyF; rw [show skyT 6 = 9 from rfl, ev]; rfl)
  · intro h72
    refine wp_iconst (v := nI 0) (pc' := 76) rfl rfl rfl ?_
    refine wp_iret rfl rfl (by first | rfl | exact nar_if) ?_
    have e := num_none hp h72
    rw [e]
    exact kk false I p (by unfold skyF; rw [show skyT 6 = 9 from rfl, e])
theorem c_sky7 {d : Nat} {K : Nat → Nat × Nat} {I : Nat → Nat → Int32} {L : Nat → Nat → Int64} {R : Nat → Nat → Option Nat} {n s : Nat} {Q : Lo → Lm → Prop} {T p : Nat} {tv : Nat → Nat} (hT : TK K R n) (hR : RdI I T tv) (hp : p ≤ T) (kk : ∀ b J q, skyF tv T I p 7 = (b, J, q) → Q (.inl (some (.int (if b = true then nI 1 else nI 0)))) (K, rdM J q, L, R, n, s)) : Ok (d + 3) 93 [.ref 40, .int (nI 7)] (K, rdM (I) (p), L, R, n, s) Q := by
  obtain ⟨-, -, hn⟩ := id hT
  obtain ⟨hL, hT4, htv, htl⟩ := id hR
  refine Ok.enter (F := F_93) (ls := [.ref 40, .int (nI 7), lDead]) rfl rfl ?_
  refine wp_iload1 (pc' := 1) rfl rfl ?_
  refine wp_bipush (v := nI 8) (pc' := 3) rfl rfl rfl ?_
  refine wp_icmpneT rfl (by decide) ?_
  refine wp_iload1 (pc' := 17) rfl rfl ?_
  refine wp_bipush (v := nI 6) (pc' := 19) rfl rfl rfl ?_
  refine wp_icmpeqF (pc' := 22) rfl (by decide) rfl ?_
  refine wp_iload1 (pc' := 23) rfl rfl ?_
  refine wp_bipush (v := nI 7) (pc' := 25) rfl rfl rfl ?_
  refine wp_icmpeqT rfl rfl ?_
  refine wp_aload0 (pc' := 37) rfl rfl ?_
  refine wp_getRF (pc' := 40) rfl rfl (by first | exact TK.k1 hT rfl | exact TK.kk hT rfl | exact TK.r hT rfl | assumption) (by first | exact TK.k1 hT rfl | exact TK.kk hT rfl | exact TK.r hT rfl | assumption) rfl ?_
  refine wp_iconst (v := nI 0) (pc' := 41) rfl rfl rfl ?_
  refine wp_iload1 (pc' := 42) rfl rfl ?_
  refine wp_bipush (v := nI 6) (pc' := 44) rfl rfl rfl ?_
  refine wp_icmpneT rfl (by decide) ?_
  refine wp_iload1 (pc' := 53) rfl rfl ?_
  refine wp_bipush (v := nI 7) (pc' := 55) rfl rfl rfl ?_
  refine wp_icmpneF (pc' := 58) rfl rfl rfl ?_
  refine wp_bipush (v := nI 100) (pc' := 60) rfl rfl rfl ?_
  refine wp_goto rfl ?_
  refine wp_callV3 (pc' := 69) rfl rfl rfl rfl rfl (by first | exact TK.k1 hT rfl | exact TK.kk hT rfl | exact TK.r hT rfl | assumption) rfl rfl ?_
  refine c_takeNumber hT hR hp ?_
  refine Cont.v ?_
  refine wp_istore2 (pc' := 70) rfl (by first | rfl | assumption) rfl ?_
  refine wp_iload2 (pc' := 71) rfl rfl ?_
  refine wp_iconst (v := (-1)) (pc' := 72) rfl rfl rfl ?_
  refine wp_icmpne (pc' := 75) rfl rfl ?_ ?_
  · intro h72
    obtain ⟨v, q, ev, hlv, hlov, hupv, hqva, hqvb⟩ := num_some hp h72
    rw [ev]
    dsimp only [numV, numP]
    refine wp_iload1 (pc' := 78) rfl rfl ?_
    refine wp_bipush (v := nI 6) (pc' := 80) rfl rfl rfl ?_
    refine wp_icmpneT rfl (by decide) ?_
    refine wp_iload1 (pc' := 95) rfl rfl ?_
    refine wp_bipush (v := nI 7) (pc' := 97) rfl rfl rfl ?_
    refine wp_icmpneF (pc' := 100) rfl rfl rfl ?_
    refine wp_aload0 (pc' := 101) rfl rfl ?_
    refine wp_getRF (pc' := 104) rfl rfl (by first | exact TK.k1 hT rfl | exact TK.kk hT rfl | exact TK.r hT rfl | assumption) (by first | exact TK.k1 hT rfl | exact TK.kk hT rfl | exact TK.r hT rfl | assumption) rfl ?_
    refine wp_iload2 (pc' := 105) rfl rfl ?_
    refine wp_putI (pc' := 108) rfl rfl (by first | exact TK.k1 hT rfl | exact TK.kk hT rfl | exact TK.r hT rfl | assumption) (by omega) rfl ?_
    refine wp_goto rfl ?_
    rw [rdM_up2 (by decide)]
    refine wp_iconst (v := nI 1) (pc' := 120) rfl rfl rfl ?_
    refine wp_iret rfl rfl (by first | rfl | exact nar_if) ?_
    exact kk true _ _ (by unfold skyF; rw [show skyT 7 = 100 from rfl, ev]; rfl)
  · intro h72
    refine wp_iconst (v := nI 0) (pc' := 76) rfl rfl rfl ?_
    refine wp_iret rfl rfl (by first | rfl | exact nar_if) ?_
    have e := num_none hp h72
    rw [e]
    exact kk false I p (by unfold skyF; rw [show skyT 7 = 100 from rfl, e])
theorem c_sky9 {d : Nat} {K : Nat → Nat × Nat} {I : Nat → Nat → Int32} {L : Nat → Nat → Int64} {R : Nat → Nat → Option Nat} {n s : Nat} {Q : Lo → Lm → Prop} {T p : Nat} {tv : Nat → Nat} (hT : TK K R n) (hR : RdI I T tv) (hp : p ≤ T) (kk : ∀ b J q, skyF tv T I p 9 = (b, J, q) → Q (.inl (some (.int (if b = true then nI 1 else nI 0)))) (K, rdM J q, L, R, n, s)) : Ok (d + 3) 93 [.ref 40, .int (nI 9)] (K, rdM (I) (p), L, R, n, s) Q := by
  obtain ⟨-, -, hn⟩ := id hT
  obtain ⟨hL, hT4, htv, htl⟩ := id hR
  refine Ok.enter (F := F_93) (ls := [.ref 40, .int (nI 9), lDead]) rfl rfl ?_
  refine wp_iload1 (pc' := 1) rfl rfl ?_
  refine wp_bipush (v := nI 8) (pc' := 3) rfl rfl rfl ?_
  refine wp_icmpneT rfl (by decide) ?_
  refine wp_iload1 (pc' := 17) rfl rfl ?_
  refine wp_bipush (v := nI 6) (pc' := 19) rfl rfl rfl ?_
  refine wp_icmpeqF (pc' := 22) rfl (by decide) rfl ?_
  refine wp_iload1 (pc' := 23) rfl rfl ?_
  refine wp_bipush (v := nI 7) (pc' := 25) rfl rfl rfl ?_
  refine wp_icmpeqF (pc' := 28) rfl (by decide) rfl ?_
  refine wp_iload1 (pc' := 29) rfl rfl ?_
  refine wp_bipush (v := nI 9) (pc' := 31) rfl rfl rfl ?_
  refine wp_icmpeqT rfl rfl ?_
  refine wp_aload0 (pc' := 37) rfl rfl ?_
  refine wp_getRF (pc' := 40) rfl rfl (by first | exact TK.k1 hT rfl | exact TK.kk hT rfl | exact TK.r hT rfl | assumption) (by first | exact TK.k1 hT rfl | exact TK.kk hT rfl | exact TK.r hT rfl | assumption) rfl ?_
  refine wp_iconst (v := nI 0) (pc' := 41) rfl rfl rfl ?_
  refine wp_iload1 (pc' := 42) rfl rfl ?_
  refine wp_bipush (v := nI 6) (pc' := 44) rfl rfl rfl ?_
  refine wp_icmpneT rfl (by decide) ?_
  refine wp_iload1 (pc' := 53) rfl rfl ?_
  refine wp_bipush (v := nI 7) (pc' := 55) rfl rfl rfl ?_
  refine wp_icmpneT rfl (by decide) ?_
  refine wp_sipush (v := nI 999) (pc' := 66) rfl rfl rfl ?_
  refine wp_callV3 (pc' := 69) rfl rfl rfl rfl rfl (by first | exact TK.k1 hT rfl | exact TK.kk hT rfl | exact TK.r hT rfl | assumption) rfl rfl ?_
  refine c_takeNumber hT hR hp ?_
  refine Cont.v ?_
  refine wp_istore2 (pc' := 70) rfl (by first | rfl | assumption) rfl ?_
  refine wp_iload2 (pc' := 71) rfl rfl ?_
  refine wp_iconst (v := (-1)) (pc' := 72) rfl rfl rfl ?_
  refine wp_icmpne (pc' := 75) rfl rfl ?_ ?_
  · intro h72
    obtain ⟨v, q, ev, hlv, hlov, hupv, hqva, hqvb⟩ := num_some hp h72
    rw [ev]
    dsimp only [numV, numP]
    refine wp_iload1 (pc' := 78) rfl rfl ?_
    refine wp_bipush (v := nI 6) (pc' := 80) rfl rfl rfl ?_
    refine wp_icmpneT rfl (by decide) ?_
    refine wp_iload1 (pc' := 95) rfl rfl ?_
    refine wp_bipush (v := nI 7) (pc' := 97) rfl rfl rfl ?_
    refine wp_icmpneT rfl (by decide) ?_
    refine wp_aload0 (pc' := 112) rfl rfl ?_
    refine wp_getRF (pc' := 115) rfl rfl (by first | exact TK.k1 hT rfl | exact TK.kk hT rfl | exact TK.r hT rfl | assumption) (by first | exact TK.k1 hT rfl | exact TK.kk hT rfl | exact TK.r hT rfl | assumption) rfl ?_
    refine wp_iload2 (pc' := 116) rfl rfl ?_
    refine wp_putI (pc' := 119) rfl rfl (by first | exact TK.k1 hT rfl | exact TK.kk hT rfl | exact TK.r hT rfl | assumption) (by omega) rfl ?_
    rw [rdM_up2 (by decide)]
    refine wp_iconst (v := nI 1) (pc' := 120) rfl rfl rfl ?_
    refine wp_iret rfl rfl (by first | rfl | exact nar_if) ?_
    exact kk true _ _ (by unfold skyF; rw [show skyT 9 = 999 from rfl, ev]; rfl)
  · intro h72
    refine wp_iconst (v := nI 0) (pc' := 76) rfl rfl rfl ?_
    refine wp_iret rfl rfl (by first | rfl | exact nar_if) ?_
    have e := num_none hp h72
    rw [e]
    exact kk false I p (by unfold skyF; rw [show skyT 9 = 999 from rfl, e])
theorem c_sky8 {d : Nat} {K : Nat → Nat × Nat} {I : Nat → Nat → Int32} {L : Nat → Nat → Int64} {R : Nat → Nat → Option Nat} {n s : Nat} {Q : Lo → Lm → Prop} {T p : Nat} {tv : Nat → Nat} (hT : TK K R n) (hR : RdI I T tv) (hp : p ≤ T) (kk : Q (.inl (some (.int (nI 1)))) (K, rdM (up2 I 13 14 (nI 1)) (p), L, R, n, s)) : Ok (d + 3) 93 [.ref 40, .int (nI 8)] (K, rdM (I) (p), L, R, n, s) Q := by
  obtain ⟨-, -, hn⟩ := id hT
  obtain ⟨hL, hT4, htv, htl⟩ := id hR
  refine Ok.enter (F := F_93) (ls := [.ref 40, .int (nI 8), lDead]) rfl rfl ?_
  refine wp_iload1 (pc' := 1) rfl rfl ?_
  refine wp_bipush (v := nI 8) (pc' := 3) rfl rfl rfl ?_
  refine wp_icmpneF (pc' := 6) rfl rfl rfl ?_
  refine wp_aload0 (pc' := 7) rfl rfl ?_
  refine wp_getRF (pc' := 10) rfl rfl (by first | exact TK.k1 hT rfl | exact TK.kk hT rfl | exact TK.r hT rfl | assumption) (by first | exact TK.k1 hT rfl | exact TK.kk hT rfl | exact TK.r hT rfl | assumption) rfl ?_
  refine wp_iconst (v := nI 1) (pc' := 11) rfl rfl rfl ?_
  refine wp_putZ (pc' := 14) rfl rfl (by first | exact TK.k1 hT rfl | exact TK.kk hT rfl | exact TK.r hT rfl | assumption) (by omega) (by first | exact Or.inl rfl | exact Or.inr rfl) rfl ?_
  rw [rdM_up2 (by decide)]
  refine wp_iconst (v := nI 1) (pc' := 15) rfl rfl rfl ?_
  refine wp_iret rfl rfl (by first | rfl | exact nar_if) ?_
  exact kk
theorem c_skyN {d : Nat} {K : Nat → Nat × Nat} {I : Nat → Nat → Int32} {L : Nat → Nat → Int64} {R : Nat → Nat → Option Nat} {n s : Nat} {Q : Lo → Lm → Prop} {T p : Nat} {tv : Nat → Nat} (hT : TK K R n) (hR : RdI I T tv) (hp : p ≤ T) (kk : Q (.inl (some (.int (nI 0)))) (K, rdM (I) (p), L, R, n, s)) : Ok (d + 3) 93 [.ref 40, .int (-1)] (K, rdM (I) (p), L, R, n, s) Q := by
  obtain ⟨-, -, hn⟩ := id hT
  obtain ⟨hL, hT4, htv, htl⟩ := id hR
  refine Ok.enter (F := F_93) (ls := [.ref 40, .int (-1), lDead]) rfl rfl ?_
  refine wp_iload1 (pc' := 1) rfl rfl ?_
  refine wp_bipush (v := nI 8) (pc' := 3) rfl rfl rfl ?_
  refine wp_icmpneT rfl (by decide) ?_
  refine wp_iload1 (pc' := 17) rfl rfl ?_
  refine wp_bipush (v := nI 6) (pc' := 19) rfl rfl rfl ?_
  refine wp_icmpeqF (pc' := 22) rfl (by decide) rfl ?_
  refine wp_iload1 (pc' := 23) rfl rfl ?_
  refine wp_bipush (v := nI 7) (pc' := 25) rfl rfl rfl ?_
  refine wp_icmpeqF (pc' := 28) rfl (by decide) rfl ?_
  refine wp_iload1 (pc' := 29) rfl rfl ?_
  refine wp_bipush (v := nI 9) (pc' := 31) rfl rfl rfl ?_
  refine wp_icmpeqF (pc' := 34) rfl (by decide) rfl ?_
  refine wp_iconst (v := nI 0) (pc' := 35) rfl rfl rfl ?_
  refine wp_iret rfl rfl (by first | rfl | exact nar_if) ?_
  exact kk
theorem c_readRow {d : Nat} {K : Nat → Nat × Nat} {I : Nat → Nat → Int32} {L : Nat → Nat → Int64} {R : Nat → Nat → Option Nat} {n s : Nat} {Q : Lo → Lm → Prop} {T p : Nat} {tv : Nat → Nat} {a : Nat} (hT : TK K R n) (hR : RdI I T tv) (hp : p ≤ T) (ha : K a = (50, 25)) (han : a < 38) (kk : ∀ b J q, rowL tv T a I p = (b, J, q) → Q (.inl (some (.int (if b = true then nI 1 else nI 0)))) (K, rdM J q, L, R, n, s)) : Ok (d + 3) 84 [.ref 40, .ref a] (K, rdM (I) (p), L, R, n, s) Q := by
  obtain ⟨-, -, hn⟩ := id hT
  obtain ⟨hL, hT4, htv, htl⟩ := id hR
  have ha8 : a ≠ 38 := by omega
  have ha9 : a ≠ 39 := by omega
  refine Ok.enter (F := F_84) (ls := [.ref 40, .ref a, lDead, lDead, lDead]) rfl rfl ?_
  refine wp_aload0 (pc' := 1) rfl rfl ?_
  refine wp_getRF (pc' := 4) rfl rfl (by first | exact TK.k1 hT rfl | exact TK.kk hT rfl | exact TK.r hT rfl | assumption) (by first | exact TK.k1 hT rfl | exact TK.kk hT rfl | exact TK.r hT rfl | assumption) rfl ?_
  refine wp_iconst (v := nI 0) (pc' := 5) rfl rfl rfl ?_
  refine wp_bipush (v := nI 24) (pc' := 7) rfl rfl rfl ?_
  refine wp_callV3 (pc' := 10) rfl rfl rfl rfl rfl (by first | exact TK.k1 hT rfl | exact TK.kk hT rfl | exact TK.r hT rfl | assumption) rfl rfl ?_
  refine c_takeNumber hT hR hp ?_
  refine Cont.v ?_
  refine wp_istore2 (pc' := 11) rfl (by first | rfl | assumption) rfl ?_
  refine wp_iload2 (pc' := 12) rfl rfl ?_
  refine wp_iconst (v := (-1)) (pc' := 13) rfl rfl rfl ?_
  refine wp_icmpne (pc' := 16) rfl rfl ?_ ?_
  · intro h13
    obtain ⟨c, q, ec, hlc, hloc, hupc, hqca, hqcb⟩ := num_some hp h13
    rw [ec]
    dsimp only [numV, numP]
    have hc24 : c ≤ 24 := ge_nI hupc (by omega)
    refine wp_iload2 (pc' := 19) rfl rfl ?_
    refine wp_istore3 (pc' := 20) rfl (by first | rfl | assumption) rfl ?_
    have lp20 : ∀ r (i : Nat) (J : Mem) (q2 : Nat) (v4 : Value), i + r = 25 → RdI J T tv → q2 ≤ T → rowF tv T a (25 - i) i J q2 = rowF tv T a (25 - c) c I q → isL v4 = false → WP (d + 2) F_84 20 [.ref 40, .ref a, .int (nI c), .int (nI i), v4] [] (K, rdM (J) (q2), L, R, n, s) Q := by
      intro r; induction r with
      | zero =>
        intro i J q2 v4 hi hv0 hv1 hv2 hv3
        have hi2 : i = 25 := by omega
        skip
        refine wp_iload3 (pc' := 21) rfl rfl ?_
        refine wp_bipush (v := nI 25) (pc' := 23) rfl rfl rfl ?_
        refine wp_icmpgeT rfl (nI_nlt (by omega) (by omega)) ?_
        refine wp_iconst (v := nI 0) (pc' := 70) rfl rfl rfl ?_
        refine wp_iret rfl rfl (by first | rfl | exact nar_if) ?_
        exact kk false J q2 (by unfold rowL; rw [ec]; dsimp only; rw [← hv2, show 25 - i = 0 by omega]; rfl)
      | succ r ih =>
        intro i J q2 v4 hi hv0 hv1 hv2 hv3
        have hlt : i < 25 := by omega
        refine wp_iload3 (pc' := 21) rfl rfl ?_
        refine wp_bipush (v := nI 25) (pc' := 23) rfl rfl rfl ?_
        refine wp_icmpgeF (pc' := 26) rfl (nI_lt (by omega) (by omega)) rfl ?_
        refine wp_aload0 (pc' := 27) rfl rfl ?_
        refine wp_getRF (pc' := 30) rfl rfl (by first | exact TK.k1 hT rfl | exact TK.kk hT rfl | exact TK.r hT rfl | assumption) (by first | exact TK.k1 hT rfl | exact TK.kk hT rfl | exact TK.r hT rfl | assumption) rfl ?_
        refine wp_iconst (v := nI 0) (pc' := 31) rfl rfl rfl ?_
        refine wp_bipush (v := nI 9) (pc' := 33) rfl rfl rfl ?_
        refine wp_callV3 (pc' := 36) rfl rfl rfl rfl rfl (TK.k1 hT rfl) rfl rfl ?_
        refine c_takeNumber hT hv0 hv1 ?_
        refine Cont.v ?_
        refine wp_istore4 (pc' := 38) rfl (by first | rfl | assumption) rfl ?_
        refine wp_iload4 (pc' := 40) rfl rfl ?_
        refine wp_iconst (v := (-1)) (pc' := 41) rfl rfl rfl ?_
        refine wp_icmpne (pc' := 44) rfl rfl ?_ ?_
        · intro h41
          obtain ⟨v, q1, ev, hlv, hlov, hupv, hqva, hqvb⟩ := num_some hv1 h41
          rw [ev]
          dsimp only [numV, numP]
          refine wp_aload1 (pc' := 47) rfl rfl ?_
          refine wp_iload3 (pc' := 48) rfl rfl ?_
          refine wp_iload4 (pc' := 50) rfl rfl ?_
          refine wp_iast i (pc' := 51) rfl ha (by omega) rfl (by omega) (by decide) rfl ?_
          rw [rdM_up2 ha9]
          refine wp_aload0 (pc' := 52) rfl rfl ?_
          refine wp_getRF (pc' := 55) rfl rfl (by first | exact TK.k1 hT rfl | exact TK.kk hT rfl | exact TK.r hT rfl | assumption) (by first | exact TK.k1 hT rfl | exact TK.kk hT rfl | exact TK.r hT rfl | assumption) rfl ?_
          refine wp_callV1 (pc' := 58) rfl rfl rfl rfl rfl (by first | exact TK.k1 hT rfl | exact TK.kk hT rfl | exact TK.r hT rfl | assumption) rfl rfl ?_
          refine c_isAtDigit hT (RdI_up2 hv0 ha8 ha9) hqvb ?_
          refine Cont.v ?_
          first | refine wp_ifneB (pc' := 61) rfl rfl ?_ ?_ | refine wp_ifne (pc' := 61) rfl rfl ?_ ?_
          · intro h58
            first | refine wp_iinc3 (w := nI 1) (pc' := 66) rfl rfl rfl (by with_reducible exact nI_add _ _) rfl ?_ | refine wp_iinc3 (w := nI 1) (pc' := 66) rfl rfl rfl rfl rfl ?_
            refine wp_goto rfl ?_
            exact WP.cg (ih (i + 1) _ _ _ (by omega) (RdI_up2 hv0 ha8 ha9) hqvb (by rw [show 25 - i = (25 - (i + 1)) + 1 by omega, rowF, ev] at hv2; dsimp only at hv2; rw [if_pos h58] at hv2; exact hv2) (by first | rfl | assumption)) (lC1 (lC1 (lI1 (by rfl) (lI1 (by rfl) (lC1 rfl))))) rfl (by rfl)
          · intro h58
            refine wp_iconst (v := nI 1) (pc' := 62) rfl rfl rfl ?_
            refine wp_iret rfl rfl (by first | rfl | exact nar_if) ?_
            exact kk true _ _ (by unfold rowL; rw [ec]; dsimp only; rw [← hv2, show 25 - i = (25 - (i + 1)) + 1 by omega, rowF, ev]; dsimp only; rw [if_neg h58])
        · intro h41
          refine wp_iconst (v := nI 0) (pc' := 45) rfl rfl rfl ?_
          refine wp_iret rfl rfl (by first | rfl | exact nar_if) ?_
          have e := num_none hv1 h41
          rw [e]
          exact kk false J q2 (by unfold rowL; rw [ec]; dsimp only; rw [← hv2, show 25 - i = (25 - (i + 1)) + 1 by omega, rowF, e])
    exact WP.cg (lp20 (25 - (c)) (c) I q _ (by omega) hR hqcb rfl (by first | rfl | assumption)) (lC1 (lC1 (lI1 (by rfl) (lI1 (by rfl) (lC1 rfl))))) rfl (by rfl)
  · intro h13
    refine wp_iconst (v := nI 0) (pc' := 17) rfl rfl rfl ?_
    refine wp_iret rfl rfl (by first | rfl | exact nar_if) ?_
    have e := num_none hp h13
    rw [e]
    exact kk false I p (by unfold rowL; rw [e])
theorem c_readCells {d : Nat} {K : Nat → Nat × Nat} {I : Nat → Nat → Int32} {L : Nat → Nat → Int64} {R : Nat → Nat → Option Nat} {n s : Nat} {Q : Lo → Lm → Prop} {T p : Nat} {tv : Nat → Nat} (hT : TK K R n) (hR : RdI I T tv) (hp : p ≤ T) (kk : Q (.inl (some (.int (celV (celL tv T p).1)))) (K, rdM (I) ((celL tv T p).2), L, R, n, s)) : Ok (d + 3) 88 [.ref 40] (K, rdM (I) (p), L, R, n, s) Q := by
  obtain ⟨-, -, hn⟩ := id hT
  obtain ⟨hL, hT4, htv, htl⟩ := id hR
  refine Ok.enter (F := F_88) (ls := [.ref 40, lDead, lDead, lDead]) rfl rfl ?_
  refine wp_iconst (v := nI 0) (pc' := 1) rfl rfl rfl ?_
  refine wp_istore1 (pc' := 2) rfl (by first | rfl | assumption) rfl ?_
  refine wp_iconst (v := nI 0) (pc' := 3) rfl rfl rfl ?_
  refine wp_istore2 (pc' := 4) rfl (by first | rfl | assumption) rfl ?_
  have lp4 : ∀ r (i : Nat) (x : Int32) (q2 : Nat) (v3 : Value), i + r = 8 → low25 x → q2 ≤ T → celF tv T (8 - i) x q2 = celL tv T p → isL v3 = false → WP (d + 2) F_88 4 [.ref 40, .int x, .int (nI i), v3] [] (K, rdM (I) (q2), L, R, n, s) Q := by
    intro r; induction r with
    | zero =>
      intro i x q2 v3 hi hv0 hv1 hv2 hv3
      have hi2 : i = 8 := by omega
      skip
      refine wp_iload2 (pc' := 5) rfl rfl ?_
      refine wp_bipush (v := nI 8) (pc' := 7) rfl rfl rfl ?_
      refine wp_icmpgeT rfl (nI_nlt (by omega) (by omega)) ?_
      refine wp_iconst (v := (-1)) (pc' := 53) rfl rfl rfl ?_
      refine wp_iret rfl rfl rfl ?_
      have hz : celL tv T p = (none, q2) := by rw [← hv2, show 8 - i = 0 by omega]; rfl
      rw [hz] at kk
      exact kk
    | succ r ih =>
      intro i x q2 v3 hi hv0 hv1 hv2 hv3
      have hlt : i < 8 := by omega
      refine wp_iload2 (pc' := 5) rfl rfl ?_
      refine wp_bipush (v := nI 8) (pc' := 7) rfl rfl rfl ?_
      refine wp_icmpgeF (pc' := 10) rfl (nI_lt (by omega) (by omega)) rfl ?_
      refine wp_aload0 (pc' := 11) rfl rfl ?_
      refine wp_getRF (pc' := 14) rfl rfl (by first | exact TK.k1 hT rfl | exact TK.kk hT rfl | exact TK.r hT rfl | assumption) (by first | exact TK.k1 hT rfl | exact TK.kk hT rfl | exact TK.r hT rfl | assumption) rfl ?_
      refine wp_iconst (v := nI 0) (pc' := 15) rfl rfl rfl ?_
      refine wp_bipush (v := nI 24) (pc' := 17) rfl rfl rfl ?_
      refine wp_callV3 (pc' := 20) rfl rfl rfl rfl rfl (by first | exact TK.k1 hT rfl | exact TK.kk hT rfl | exact TK.r hT rfl | assumption) rfl rfl ?_
      refine c_takeNumber hT hR hv1 ?_
      refine Cont.v ?_
      refine wp_istore3 (pc' := 21) rfl (by first | rfl | assumption) rfl ?_
      refine wp_iload3 (pc' := 22) rfl rfl ?_
      refine wp_iconst (v := (-1)) (pc' := 23) rfl rfl rfl ?_
      refine wp_icmpne (pc' := 26) rfl rfl ?_ ?_
      · intro h23
        obtain ⟨v, q1, ev, hlv, hlov, hupv, hqva, hqvb⟩ := num_some hv1 h23
        rw [ev]
        dsimp only [numV, numP]
        have hv24 : v ≤ 24 := ge_nI hupv (by omega)
        refine wp_iload1 (pc' := 29) rfl rfl ?_
        refine wp_iconst (v := nI 1) (pc' := 30) rfl rfl rfl ?_
        refine wp_iload3 (pc' := 31) rfl rfl ?_
        refine wp_ishl (pc' := 32) rfl rfl ?_
        refine wp_ior (pc' := 33) rfl rfl ?_
        refine wp_istore1 (pc' := 34) rfl (by first | rfl | assumption) rfl ?_
        refine wp_aload0 (pc' := 35) rfl rfl ?_
        refine wp_getRF (pc' := 38) rfl rfl (by first | exact TK.k1 hT rfl | exact TK.kk hT rfl | exact TK.r hT rfl | assumption) (by first | exact TK.k1 hT rfl | exact TK.kk hT rfl | exact TK.r hT rfl | assumption) rfl ?_
        refine wp_callV1 (pc' := 41) rfl rfl rfl rfl rfl (by first | exact TK.k1 hT rfl | exact TK.kk hT rfl | exact TK.r hT rfl | assumption) rfl rfl ?_
        refine c_isAtDigit hT hR hqvb ?_
        refine Cont.v ?_
        first | refine wp_ifneB (pc' := 44) rfl rfl ?_ ?_ | refine wp_ifne (pc' := 44) rfl rfl ?_ ?_
        · intro h41
          first | refine wp_iinc2 (w := nI 1) (pc' := 49) rfl rfl rfl (by with_reducible exact nI_add _ _) rfl ?_ | refine wp_iinc2 (w := nI 1) (pc' := 49) rfl rfl rfl rfl rfl ?_
          refine wp_goto rfl ?_
          exact WP.cg (ih (i + 1) _ _ _ (by omega) (low25_or hv0 (low25_1 ⟨v, by omega⟩)) hqvb (by rw [show 8 - i = (8 - (i + 1)) + 1 by omega, celF, ev] at hv2; dsimp only at hv2; rw [if_pos h41] at hv2; exact hv2) (by first | rfl | assumption)) (lC1 (lI1 (by rfl) (lI1 (by rfl) (lC1 rfl)))) rfl (by rfl)
        · intro h41
          refine wp_iload1 (pc' := 45) rfl rfl ?_
          refine wp_iret rfl rfl rfl ?_
          have hz : celL tv T p = (some (x ||| jshl (nI 1) (nI v)), q1) := by rw [← hv2, show 8 - i = (8 - (i + 1)) + 1 by omega, celF, ev]; dsimp only; rw [if_neg h41]
          rw [hz] at kk
          exact kk
      · intro h23
        refine wp_iconst (v := (-1)) (pc' := 27) rfl rfl rfl ?_
        refine wp_iret rfl rfl rfl ?_
        have e := num_none hv1 h23
        have hz : celL tv T p = (none, q2) := by rw [← hv2, show 8 - i = (8 - (i + 1)) + 1 by omega, celF, e]
        rw [hz] at kk
        rw [e]
        exact kk
  exact WP.cg (lp4 (8 - (0)) (0) (nI 0) p _ (by omega) (by unfold low25; decide) hp rfl (by first | rfl | assumption)) (lC1 (lI1 (by rfl) (lI1 (by rfl) (lC1 rfl)))) rfl (by rfl)
theorem c_readDrains {d : Nat} {K : Nat → Nat × Nat} {I : Nat → Nat → Int32} {L : Nat → Nat → Int64} {R : Nat → Nat → Option Nat} {n s : Nat} {Q : Lo → Lm → Prop} {T p : Nat} {tv : Nat → Nat} (hT : TK K R n) (hR : RdI I T tv) (hp : p ≤ T) (kk : ∀ b J q, drnL tv T I p = (b, J, q) → Q (.inl (some (.int (if b = true then nI 1 else nI 0)))) (K, rdM J q, L, R, n, s)) : Ok (d + 4) 87 [.ref 40] (K, rdM (I) (p), L, R, n, s) Q := by
  obtain ⟨-, -, hn⟩ := id hT
  obtain ⟨hL, hT4, htv, htl⟩ := id hR
  refine Ok.enter (F := F_87) (ls := [.ref 40, lDead]) rfl rfl ?_
  refine wp_aload0 (pc' := 1) rfl rfl ?_
  refine wp_callV1 (pc' := 4) rfl rfl rfl rfl rfl (by first | exact TK.k1 hT rfl | exact TK.kk hT rfl | exact TK.r hT rfl | assumption) rfl rfl ?_
  refine c_readCells hT hR hp ?_
  refine Cont.v ?_
  refine wp_istore1 (pc' := 5) rfl (by first | rfl | assumption) rfl ?_
  refine wp_iload1 (pc' := 6) rfl rfl ?_
  refine wp_iconst (v := (-1)) (pc' := 7) rfl rfl rfl ?_
  refine wp_icmpne (pc' := 10) rfl rfl ?_ ?_
  · intro h7
    obtain ⟨x, ex⟩ := celL_some h7
    rw [ex]
    dsimp only [celV]
    refine wp_aload0 (pc' := 13) rfl rfl ?_
    refine wp_getRF (pc' := 16) rfl rfl (by first | exact TK.k1 hT rfl | exact TK.kk hT rfl | exact TK.r hT rfl | assumption) (by first | exact TK.k1 hT rfl | exact TK.kk hT rfl | exact TK.r hT rfl | assumption) rfl ?_
    refine wp_dup (pc' := 17) rfl rfl rfl ?_
    refine wp_getI (pc' := 20) rfl rfl (by first | exact TK.k1 hT rfl | exact TK.kk hT rfl | exact TK.r hT rfl | assumption) rfl ?_
    refine wp_iload1 (pc' := 21) rfl rfl ?_
    skip
    refine wp_ior (pc' := 22) rfl rfl ?_
    refine wp_putI (pc' := 25) rfl rfl (by first | exact TK.k1 hT rfl | exact TK.kk hT rfl | exact TK.r hT rfl | assumption) (by omega) rfl ?_
    rw [rdM_o (show 13 ≠ 39 by decide), rdM_up2 (by decide)]
    refine wp_iconst (v := nI 1) (pc' := 26) rfl rfl rfl ?_
    refine wp_iret rfl rfl (by first | rfl | exact nar_if) ?_
    exact kk true _ _ (by unfold drnL; rw [ex])
  · intro h7
    refine wp_iconst (v := nI 0) (pc' := 11) rfl rfl rfl ?_
    refine wp_iret rfl rfl (by first | rfl | exact nar_if) ?_
    exact kk false I _ (by unfold drnL; rw [celL_none hp h7])
theorem c_readRights {d : Nat} {K : Nat → Nat × Nat} {I : Nat → Nat → Int32} {L : Nat → Nat → Int64} {R : Nat → Nat → Option Nat} {n s : Nat} {Q : Lo → Lm → Prop} {T p : Nat} {tv : Nat → Nat} {H : Nat} (hT : TK K R n) (hR : RdI I T tv) (hp : p ≤ T) (hH : I 13 10 = nI H) (hH6 : H ≤ 6) (kk : ∀ b J q, rgtL tv T I p = (b, J, q) → Q (.inl (some (.int (if b = true then nI 1 else nI 0)))) (K, rdM J q, L, R, n, s)) : Ok (d + 4) 92 [.ref 40] (K, rdM (I) (p), L, R, n, s) Q := by
  obtain ⟨-, -, hn⟩ := id hT
  obtain ⟨hL, hT4, htv, htl⟩ := id hR
  refine Ok.enter (F := F_92) (ls := [.ref 40, lDead, lDead]) rfl rfl ?_
  refine wp_aload0 (pc' := 1) rfl rfl ?_
  refine wp_getRF (pc' := 4) rfl rfl (by first | exact TK.k1 hT rfl | exact TK.kk hT rfl | exact TK.r hT rfl | assumption) (by first | exact TK.k1 hT rfl | exact TK.kk hT rfl | exact TK.r hT rfl | assumption) rfl ?_
  refine wp_iconst (v := nI 0) (pc' := 5) rfl rfl rfl ?_
  refine wp_aload0 (pc' := 6) rfl rfl ?_
  refine wp_getRF (pc' := 9) rfl rfl (by first | exact TK.k1 hT rfl | exact TK.kk hT rfl | exact TK.r hT rfl | assumption) (by first | exact TK.k1 hT rfl | exact TK.kk hT rfl | exact TK.r hT rfl | assumption) rfl ?_
  refine wp_getI (pc' := 12) rfl rfl (by first | exact TK.k1 hT rfl | exact TK.kk hT rfl | exact TK.r hT rfl | assumption) rfl ?_
  rw [rdM_o (show 13 ≠ 39 by decide)]
  refine wp_iconst (v := nI 1) (pc' := 13) rfl rfl rfl ?_
  first | refine wp_isubN (pc' := 14) rfl (by with_reducible rfl) (by with_reducible rfl) (by omega) rfl ?_ | refine wp_isub (pc' := 14) rfl rfl ?_
  skip
  refine wp_callV3 (pc' := 17) rfl rfl rfl rfl rfl (by first | exact TK.k1 hT rfl | exact TK.kk hT rfl | exact TK.r hT rfl | assumption) rfl rfl ?_
  refine c_takeNumber hT hR hp ?_
  refine Cont.v ?_
  refine wp_istore1 (pc' := 18) rfl (by first | rfl | assumption) rfl ?_
  refine wp_iload1 (pc' := 19) rfl rfl ?_
  refine wp_iconst (v := (-1)) (pc' := 20) rfl rfl rfl ?_
  refine wp_icmpne (pc' := 23) rfl rfl ?_ ?_
  · intro h20
    obtain ⟨v, q1, ev, hlv, hlov, hupv, hqva, hqvb⟩ := num_some hp h20
    rw [ev]
    dsimp only [numV, numP]
    have hvH : v < H := by
      have h1 : ¬ nI H - nI 1 < nI v := by rw [← hH]; exact hupv
      by_cases h0 : H = 0
      · subst h0; exact absurd (m1_lt (by omega)) h1
      · rw [nI_sub (by omega)] at h1; have := ge_nI h1 (by omega); omega
    refine wp_aload0 (pc' := 26) rfl rfl ?_
    refine wp_callV1 (pc' := 29) rfl rfl rfl rfl rfl (by first | exact TK.k1 hT rfl | exact TK.kk hT rfl | exact TK.r hT rfl | assumption) rfl rfl ?_
    refine c_readCells hT hR hqvb ?_
    refine Cont.v ?_
    refine wp_istore2 (pc' := 30) rfl (by first | rfl | assumption) rfl ?_
    refine wp_iload2 (pc' := 31) rfl rfl ?_
    refine wp_iconst (v := (-1)) (pc' := 32) rfl rfl rfl ?_
    refine wp_icmpne (pc' := 35) rfl rfl ?_ ?_
    · intro h32
      obtain ⟨x, ex⟩ := celL_some h32
      rw [ex]
      dsimp only [celV]
      refine wp_aload0 (pc' := 38) rfl rfl ?_
      refine wp_getRF (pc' := 41) rfl rfl (by first | exact TK.k1 hT rfl | exact TK.kk hT rfl | exact TK.r hT rfl | assumption) (by first | exact TK.k1 hT rfl | exact TK.kk hT rfl | exact TK.r hT rfl | assumption) rfl ?_
      refine wp_getRF (pc' := 44) rfl rfl (by first | exact TK.k1 hT rfl | exact TK.kk hT rfl | exact TK.r hT rfl | assumption) (by first | exact TK.k1 hT rfl | exact TK.kk hT rfl | exact TK.r hT rfl | assumption) rfl ?_
      refine wp_iload1 (pc' := 45) rfl rfl ?_
      refine wp_dup2 (pc' := 46) rfl rfl rfl rfl ?_
      refine wp_iald v (pc' := 47) rfl (TK.kk hT rfl) rfl (by omega) (by decide) rfl ?_
      refine wp_iload2 (pc' := 48) rfl rfl ?_
      refine wp_ior (pc' := 49) rfl rfl ?_
      refine wp_iast v (pc' := 50) rfl (TK.kk hT rfl) (by omega) rfl (by omega) (by decide) rfl ?_
      rw [rdM_o (show 22 ≠ 39 by decide), rdM_up2 (by decide)]
      refine wp_iconst (v := nI 1) (pc' := 51) rfl rfl rfl ?_
      refine wp_iret rfl rfl (by first | rfl | exact nar_if) ?_
      exact kk true _ _ (by unfold rgtL; rw [ev]; dsimp only; rw [ex])
    · intro h32
      refine wp_iconst (v := nI 0) (pc' := 36) rfl rfl rfl ?_
      refine wp_iret rfl rfl (by first | rfl | exact nar_if) ?_
      exact kk false I _ (by unfold rgtL; rw [ev]; dsimp only; rw [celL_none hqvb h32])
  · intro h20
    refine wp_iconst (v := nI 0) (pc' := 24) rfl rfl rfl ?_
    refine wp_iret rfl rfl (by first | rfl | exact nar_if) ?_
    have e := num_none hp h20
    rw [e]
    exact kk false I p (by unfold rgtL; rw [e])
theorem c_readTurves {d : Nat} {K : Nat → Nat × Nat} {I : Nat → Nat → Int32} {L : Nat → Nat → Int64} {R : Nat → Nat → Option Nat} {n s : Nat} {Q : Lo → Lm → Prop} {T p : Nat} {tv : Nat → Nat} (hT : TK K R n) (hR : RdI I T tv) (hS : SS K I R) (hp : p ≤ T) (kk : ∀ b J q, turL tv T I p = (b, J, q) → Q (.inl (some (.int (if b = true then nI 1 else nI 0)))) (K, rdM J q, L, R, n, s)) : Ok (d + 6) 89 [.ref 40] (K, rdM (I) (p), L, R, n, s) Q := by
  obtain ⟨-, -, hn⟩ := id hT
  obtain ⟨hL, hT4, htv, htl⟩ := id hR
  refine Ok.enter (F := F_89) (ls := [.ref 40, lDead, lDead, lDead]) rfl rfl ?_
  refine wp_aload0 (pc' := 1) rfl rfl ?_
  refine wp_getRF (pc' := 4) rfl rfl (by first | exact TK.k1 hT rfl | exact TK.kk hT rfl | exact TK.r hT rfl | assumption) (by first | exact TK.k1 hT rfl | exact TK.kk hT rfl | exact TK.r hT rfl | assumption) rfl ?_
  refine wp_iconst (v := nI 0) (pc' := 5) rfl rfl rfl ?_
  refine wp_bipush (v := nI 24) (pc' := 7) rfl rfl rfl ?_
  refine wp_callV3 (pc' := 10) rfl rfl rfl rfl rfl (by first | exact TK.k1 hT rfl | exact TK.kk hT rfl | exact TK.r hT rfl | assumption) rfl rfl ?_
  refine c_takeNumber hT hR hp ?_
  refine Cont.v ?_
  refine wp_istore1 (pc' := 11) rfl (by first | rfl | assumption) rfl ?_
  refine wp_iload1 (pc' := 12) rfl rfl ?_
  refine wp_iconst (v := (-1)) (pc' := 13) rfl rfl rfl ?_
  refine wp_icmpne (pc' := 16) rfl rfl ?_ ?_
  · intro h13
    obtain ⟨c, q, ec, hlc, hloc, hupc, hqca, hqcb⟩ := num_some hp h13
    rw [ec]
    dsimp only [numV, numP]
    refine wp_aload0 (pc' := 19) rfl rfl ?_
    refine wp_getRF (pc' := 22) rfl rfl (by first | exact TK.k1 hT rfl | exact TK.kk hT rfl | exact TK.r hT rfl | assumption) (by first | exact TK.k1 hT rfl | exact TK.kk hT rfl | exact TK.r hT rfl | assumption) rfl ?_
    refine wp_iconst (v := nI 1) (pc' := 23) rfl rfl rfl ?_
    refine wp_bipush (v := nI 99) (pc' := 25) rfl rfl rfl ?_
    refine wp_callV3 (pc' := 28) rfl rfl rfl rfl rfl (by first | exact TK.k1 hT rfl | exact TK.kk hT rfl | exact TK.r hT rfl | assumption) rfl rfl ?_
    refine c_takeNumber hT hR hqcb ?_
    refine Cont.v ?_
    refine wp_istore2 (pc' := 29) rfl (by first | rfl | assumption) rfl ?_
    refine wp_iload2 (pc' := 30) rfl rfl ?_
    refine wp_iconst (v := (-1)) (pc' := 31) rfl rfl rfl ?_
    refine wp_icmpne (pc' := 34) rfl rfl ?_ ?_
    · intro h31
      obtain ⟨m, q1, em, hlm, hlom, hupm, hqma, hqmb⟩ := num_some hqcb h31
      rw [em]
      dsimp only [numV, numP]
      have hwd := afB_le (w := kDry) (tv := tv) hqmb
      refine wp_aload0 (pc' := 37) rfl rfl ?_
      refine wp_getRF (pc' := 40) rfl rfl (by first | exact TK.k1 hT rfl | exact TK.kk hT rfl | exact TK.r hT rfl | assumption) (by first | exact TK.k1 hT rfl | exact TK.kk hT rfl | exact TK.r hT rfl | assumption) rfl ?_
      refine wp_pool (v := .ref (lmB + 2)) (pc' := 42) rfl rfl rfl rfl rfl ?_
      refine wp_callV2 (pc' := 45) rfl rfl rfl rfl rfl (by first | exact TK.k1 hT rfl | exact TK.kk hT rfl | exact TK.r hT rfl | assumption) rfl rfl ?_
      refine c_word (w := 1) kDry hT hR hS (by decide) (by decide) (by decide) hqmb ?_
      refine Cont.v ?_
      first | refine wp_ifeqB (pc' := 48) rfl rfl ?_ ?_ | refine wp_ifeq (pc' := 48) rfl rfl ?_ ?_
      · intro h45
        refine wp_iconst (v := nI 0) (pc' := 62) rfl rfl rfl ?_
        refine wp_istore3 (pc' := 63) rfl (by first | rfl | assumption) rfl ?_
        refine wp_iload3 (pc' := 64) rfl rfl ?_
        refine wp_iconst (v := (-1)) (pc' := 65) rfl rfl rfl ?_
        refine wp_icmpneT rfl (by decide) ?_
        refine wp_aload0 (pc' := 71) rfl rfl ?_
        refine wp_getRF (pc' := 74) rfl rfl (by first | exact TK.k1 hT rfl | exact TK.kk hT rfl | exact TK.r hT rfl | assumption) (by first | exact TK.k1 hT rfl | exact TK.kk hT rfl | exact TK.r hT rfl | assumption) rfl ?_
        refine wp_getRF (pc' := 77) rfl rfl (by first | exact TK.k1 hT rfl | exact TK.kk hT rfl | exact TK.r hT rfl | assumption) (by first | exact TK.k1 hT rfl | exact TK.kk hT rfl | exact TK.r hT rfl | assumption) rfl ?_
        refine wp_iload1 (pc' := 78) rfl rfl ?_
        refine wp_iload2 (pc' := 79) rfl rfl ?_
        refine wp_iast c (pc' := 80) rfl (TK.kk hT rfl) (by omega) rfl (by have := ge_nI hupc (by omega); omega) (by decide) rfl ?_
        rw [rdM_up2 (by decide)]
        refine wp_aload0 (pc' := 81) rfl rfl ?_
        refine wp_getRF (pc' := 84) rfl rfl (by first | exact TK.k1 hT rfl | exact TK.kk hT rfl | exact TK.r hT rfl | assumption) (by first | exact TK.k1 hT rfl | exact TK.kk hT rfl | exact TK.r hT rfl | assumption) rfl ?_
        refine wp_getRF (pc' := 87) rfl rfl (by first | exact TK.k1 hT rfl | exact TK.kk hT rfl | exact TK.r hT rfl | assumption) (by first | exact TK.k1 hT rfl | exact TK.kk hT rfl | exact TK.r hT rfl | assumption) rfl ?_
        refine wp_iload1 (pc' := 88) rfl rfl ?_
        refine wp_iload3 (pc' := 89) rfl rfl ?_
        refine wp_iast c (pc' := 90) rfl (TK.kk hT rfl) (by omega) rfl (by have := ge_nI hupc (by omega); omega) (by decide) rfl ?_
        rw [rdM_up2 (by decide)]
        refine wp_aload0 (pc' := 91) rfl rfl ?_
        refine wp_getRF (pc' := 94) rfl rfl (by first | exact TK.k1 hT rfl | exact TK.kk hT rfl | exact TK.r hT rfl | assumption) (by first | exact TK.k1 hT rfl | exact TK.kk hT rfl | exact TK.r hT rfl | assumption) rfl ?_
        refine wp_getRF (pc' := 97) rfl rfl (by first | exact TK.k1 hT rfl | exact TK.kk hT rfl | exact TK.r hT rfl | assumption) (by first | exact TK.k1 hT rfl | exact TK.kk hT rfl | exact TK.r hT rfl | assumption) rfl ?_
        refine wp_iload1 (pc' := 98) rfl rfl ?_
        refine wp_iconst (v := nI 0) (pc' := 99) rfl rfl rfl ?_
        refine wp_iast c (pc' := 100) rfl (TK.kk hT rfl) (by omega) rfl (by have := ge_nI hupc (by omega); omega) (by decide) rfl ?_
        rw [rdM_up2 (by decide)]
        refine wp_iconst (v := nI 1) (pc' := 101) rfl rfl rfl ?_
        refine wp_iret rfl rfl (by first | rfl | exact nar_if) ?_
        first | exact kk true _ _ (by unfold turL; rw [ec]; dsimp only; rw [em]; dsimp only; rw [optN_f h45, afB_f h45]) | (obtain ⟨y, q3, ey, -, -, -, -, -⟩ := num_some hwd.2 h65; rw [ey]; exact kk true _ _ (by unfold turL; rw [ec]; dsimp only; rw [em]; dsimp only; rw [optN_t h45, ← afB_t h45, ey]; rfl))
      · intro h45
        refine wp_aload0 (pc' := 49) rfl rfl ?_
        refine wp_getRF (pc' := 52) rfl rfl (by first | exact TK.k1 hT rfl | exact TK.kk hT rfl | exact TK.r hT rfl | assumption) (by first | exact TK.k1 hT rfl | exact TK.kk hT rfl | exact TK.r hT rfl | assumption) rfl ?_
        refine wp_iconst (v := nI 0) (pc' := 53) rfl rfl rfl ?_
        refine wp_bipush (v := nI 99) (pc' := 55) rfl rfl rfl ?_
        refine wp_callV3 (pc' := 58) rfl rfl rfl rfl rfl (by first | exact TK.k1 hT rfl | exact TK.kk hT rfl | exact TK.r hT rfl | assumption) rfl rfl ?_
        refine c_takeNumber hT hR hwd.2 ?_
        refine Cont.v ?_
        refine wp_goto rfl ?_
        refine wp_istore3 (pc' := 63) rfl (by first | rfl | assumption) rfl ?_
        refine wp_iload3 (pc' := 64) rfl rfl ?_
        refine wp_iconst (v := (-1)) (pc' := 65) rfl rfl rfl ?_
        refine wp_icmpne (pc' := 68) rfl rfl ?_ ?_
        · intro h65
          refine wp_aload0 (pc' := 71) rfl rfl ?_
          refine wp_getRF (pc' := 74) rfl rfl (by first | exact TK.k1 hT rfl | exact TK.kk hT rfl | exact TK.r hT rfl | assumption) (by first | exact TK.k1 hT rfl | exact TK.kk hT rfl | exact TK.r hT rfl | assumption) rfl ?_
          refine wp_getRF (pc' := 77) rfl rfl (by first | exact TK.k1 hT rfl | exact TK.kk hT rfl | exact TK.r hT rfl | assumption) (by first | exact TK.k1 hT rfl | exact TK.kk hT rfl | exact TK.r hT rfl | assumption) rfl ?_
          refine wp_iload1 (pc' := 78) rfl rfl ?_
          refine wp_iload2 (pc' := 79) rfl rfl ?_
          refine wp_iast c (pc' := 80) rfl (TK.kk hT rfl) (by omega) rfl (by have := ge_nI hupc (by omega); omega) (by decide) rfl ?_
          rw [rdM_up2 (by decide)]
          refine wp_aload0 (pc' := 81) rfl rfl ?_
          refine wp_getRF (pc' := 84) rfl rfl (by first | exact TK.k1 hT rfl | exact TK.kk hT rfl | exact TK.r hT rfl | assumption) (by first | exact TK.k1 hT rfl | exact TK.kk hT rfl | exact TK.r hT rfl | assumption) rfl ?_
          refine wp_getRF (pc' := 87) rfl rfl (by first | exact TK.k1 hT rfl | exact TK.kk hT rfl | exact TK.r hT rfl | assumption) (by first | exact TK.k1 hT rfl | exact TK.kk hT rfl | exact TK.r hT rfl | assumption) rfl ?_
          refine wp_iload1 (pc' := 88) rfl rfl ?_
          refine wp_iload3 (pc' := 89) rfl rfl ?_
          refine wp_iast c (pc' := 90) rfl (TK.kk hT rfl) (by omega) rfl (by have := ge_nI hupc (by omega); omega) (by decide) rfl ?_
          rw [rdM_up2 (by decide)]
          refine wp_aload0 (pc' := 91) rfl rfl ?_
          refine wp_getRF (pc' := 94) rfl rfl (by first | exact TK.k1 hT rfl | exact TK.kk hT rfl | exact TK.r hT rfl | assumption) (by first | exact TK.k1 hT rfl | exact TK.kk hT rfl | exact TK.r hT rfl | assumption) rfl ?_
          refine wp_getRF (pc' := 97) rfl rfl (by first | exact TK.k1 hT rfl | exact TK.kk hT rfl | exact TK.r hT rfl | assumption) (by first | exact TK.k1 hT rfl | exact TK.kk hT rfl | exact TK.r hT rfl | assumption) rfl ?_
          refine wp_iload1 (pc' := 98) rfl rfl ?_
          refine wp_iconst (v := nI 0) (pc' := 99) rfl rfl rfl ?_
          refine wp_iast c (pc' := 100) rfl (TK.kk hT rfl) (by omega) rfl (by have := ge_nI hupc (by omega); omega) (by decide) rfl ?_
          rw [rdM_up2 (by decide)]
          refine wp_iconst (v := nI 1) (pc' := 101) rfl rfl rfl ?_
          refine wp_iret rfl rfl (by first | rfl | exact nar_if) ?_
          first | exact kk true _ _ (by unfold turL; rw [ec]; dsimp only; rw [em]; dsimp only; rw [optN_f h45, afB_f h45]) | (obtain ⟨y, q3, ey, -, -, -, -, -⟩ := num_some hwd.2 h65; rw [ey]; exact kk true _ _ (by unfold turL; rw [ec]; dsimp only; rw [em]; dsimp only; rw [optN_t h45, ← afB_t h45, ey]; rfl))
        · intro h65
          refine wp_iconst (v := nI 0) (pc' := 69) rfl rfl rfl ?_
          refine wp_iret rfl rfl (by first | rfl | exact nar_if) ?_
          have e := num_none hwd.2 h65
          rw [e]
          exact kk false I _ (by unfold turL; rw [ec]; dsimp only; rw [em]; dsimp only; rw [optN_t h45, ← afB_t h45, e]; rfl)
    · intro h31
      refine wp_iconst (v := nI 0) (pc' := 35) rfl rfl rfl ?_
      refine wp_iret rfl rfl (by first | rfl | exact nar_if) ?_
      have e := num_none hqcb h31
      rw [e]
      exact kk false I q (by unfold turL; rw [ec]; dsimp only; rw [e])
  · intro h13
    refine wp_iconst (v := nI 0) (pc' := 17) rfl rfl rfl ?_
    refine wp_iret rfl rfl (by first | rfl | exact nar_if) ?_
    have e := num_none hp h13
    rw [e]
    exact kk false I p (by unfold turL; rw [e])
theorem c_readHearth {d : Nat} {K : Nat → Nat × Nat} {I : Nat → Nat → Int32} {L : Nat → Nat → Int64} {R : Nat → Nat → Option Nat} {n s : Nat} {Q : Lo → Lm → Prop} {T p : Nat} {tv : Nat → Nat} {b0 H : Nat} (hT : TK K R n) (hR : RdI I T tv) (hS : SS K I R) (hp : p ≤ T) (hH : I 13 10 = nI H) (hH6 : H ≤ 6) (kk : ∀ b J q, heaL tv T I b0 p H = (b, J, q) → Q (.inl (some (.int (if b = true then nI 1 else nI 0)))) (K, rdM J q, L, R, n, s)) : Ok (d + 6) 91 [.ref 40, .int (nI b0)] (K, rdM (I) (p), L, R, n, s) Q := by
  obtain ⟨-, -, hn⟩ := id hT
  obtain ⟨hL, hT4, htv, htl⟩ := id hR
  refine Ok.enter (F := F_91) (ls := [.ref 40, .int (nI b0), lDead, lDead, lDead, lDead]) rfl rfl ?_
  refine wp_aload0 (pc' := 1) rfl rfl ?_
  refine wp_getRF (pc' := 4) rfl rfl (by first | exact TK.k1 hT rfl | exact TK.kk hT rfl | exact TK.r hT rfl | assumption) (by first | exact TK.k1 hT rfl | exact TK.kk hT rfl | exact TK.r hT rfl | assumption) rfl ?_
  refine wp_getI (pc' := 7) rfl rfl (by first | exact TK.k1 hT rfl | exact TK.kk hT rfl | exact TK.r hT rfl | assumption) rfl ?_
  rw [rdM_o (show 13 ≠ 39 by decide), hH]
  refine wp_istore2 (pc' := 8) rfl (by first | rfl | assumption) rfl ?_
  refine wp_iload2 (pc' := 9) rfl rfl ?_
  refine wp_bipush (v := nI 6) (pc' := 11) rfl rfl rfl ?_
  refine wp_icmplt (pc' := 14) rfl rfl ?_ ?_
  · intro h11
    have hH5 : H < 6 := lt_nI h11 (by omega) (by decide)
    have hwa := afB_le (w := kHands) (tv := tv) hp
    refine wp_aload0 (pc' := 25) rfl rfl ?_
    refine wp_getRF (pc' := 28) rfl rfl (by first | exact TK.k1 hT rfl | exact TK.kk hT rfl | exact TK.r hT rfl | assumption) (by first | exact TK.k1 hT rfl | exact TK.kk hT rfl | exact TK.r hT rfl | assumption) rfl ?_
    refine wp_pool (v := .ref (lmB + 4)) (pc' := 30) rfl rfl rfl rfl rfl ?_
    refine wp_callV2 (pc' := 33) rfl rfl rfl rfl rfl (by first | exact TK.k1 hT rfl | exact TK.kk hT rfl | exact TK.r hT rfl | assumption) rfl rfl ?_
    refine c_word (w := 2) kHands hT hR hS (by decide) (by decide) (by decide) hp ?_
    refine Cont.v ?_
    first | refine wp_ifeqB (pc' := 36) rfl rfl ?_ ?_ | refine wp_ifeq (pc' := 36) rfl rfl ?_ ?_
    · intro h33
      refine wp_iconst (v := (-1)) (pc' := 50) rfl rfl rfl ?_
      refine wp_istore3 (pc' := 51) rfl (by first | rfl | assumption) rfl ?_
      refine wp_iload3 (pc' := 52) rfl rfl ?_
      refine wp_iconst (v := (-1)) (pc' := 53) rfl rfl rfl ?_
      refine wp_icmpneF (pc' := 56) rfl rfl rfl ?_
      refine wp_iconst (v := nI 0) (pc' := 57) rfl rfl rfl ?_
      refine wp_iret rfl rfl (by first | rfl | exact nar_if) ?_
      first | (have e := num_none hwa.2 h53; rw [e]; exact kk false I _ (by unfold heaL; rw [if_neg (by omega)]; rw [mstN_t h33, ← afB_t h33, e]; rfl)) | exact kk false I _ (by unfold heaL; rw [if_neg (by omega)]; rw [mstN_f h33])
    · intro h33
      refine wp_aload0 (pc' := 37) rfl rfl ?_
      refine wp_getRF (pc' := 40) rfl rfl (by first | exact TK.k1 hT rfl | exact TK.kk hT rfl | exact TK.r hT rfl | assumption) (by first | exact TK.k1 hT rfl | exact TK.kk hT rfl | exact TK.r hT rfl | assumption) rfl ?_
      refine wp_iconst (v := nI 1) (pc' := 41) rfl rfl rfl ?_
      refine wp_bipush (v := nI 9) (pc' := 43) rfl rfl rfl ?_
      refine wp_callV3 (pc' := 46) rfl rfl rfl rfl rfl (by first | exact TK.k1 hT rfl | exact TK.kk hT rfl | exact TK.r hT rfl | assumption) rfl rfl ?_
      refine c_takeNumber hT hR hwa.2 ?_
      refine Cont.v ?_
      refine wp_goto rfl ?_
      refine wp_istore3 (pc' := 51) rfl (by first | rfl | assumption) rfl ?_
      refine wp_iload3 (pc' := 52) rfl rfl ?_
      refine wp_iconst (v := (-1)) (pc' := 53) rfl rfl rfl ?_
      refine wp_icmpne (pc' := 56) rfl rfl ?_ ?_
      · intro h53
        obtain ⟨a, q, ea, hla, hloa, hupa, hqaa, hqab⟩ := num_some hwa.2 h53
        rw [ea]
        dsimp only [numV, numP]
        have hwb := afB_le (w := kNeed) (tv := tv) hqab
        refine wp_aload0 (pc' := 59) rfl rfl ?_
        refine wp_getRF (pc' := 62) rfl rfl (by first | exact TK.k1 hT rfl | exact TK.kk hT rfl | exact TK.r hT rfl | assumption) (by first | exact TK.k1 hT rfl | exact TK.kk hT rfl | exact TK.r hT rfl | assumption) rfl ?_
        refine wp_pool (v := .ref (lmB + 6)) (pc' := 64) rfl rfl rfl rfl rfl ?_
        refine wp_callV2 (pc' := 67) rfl rfl rfl rfl rfl (by first | exact TK.k1 hT rfl | exact TK.kk hT rfl | exact TK.r hT rfl | assumption) rfl rfl ?_
        refine c_word (w := 3) kNeed hT hR hS (by decide) (by decide) (by decide) hqab ?_
        refine Cont.v ?_
        first | refine wp_ifeqB (pc' := 70) rfl rfl ?_ ?_ | refine wp_ifeq (pc' := 70) rfl rfl ?_ ?_
        · intro h67
          refine wp_iconst (v := (-1)) (pc' := 84) rfl rfl rfl ?_
          refine wp_istore4 (pc' := 86) rfl (by first | rfl | assumption) rfl ?_
          refine wp_iload4 (pc' := 88) rfl rfl ?_
          refine wp_iconst (v := (-1)) (pc' := 89) rfl rfl rfl ?_
          refine wp_icmpneF (pc' := 92) rfl rfl rfl ?_
          refine wp_iconst (v := nI 0) (pc' := 93) rfl rfl rfl ?_
          refine wp_iret rfl rfl (by first | rfl | exact nar_if) ?_
          first | (have e := num_none hwb.2 h89; rw [e]; exact kk false I _ (by unfold heaL; rw [if_neg (by omega)]; rw [mstN_t h33, ← afB_t h33, ea]; dsimp only; rw [mstN_t h67, ← afB_t h67, e]; rfl)) | exact kk false I _ (by unfold heaL; rw [if_neg (by omega)]; rw [mstN_t h33, ← afB_t h33, ea]; dsimp only; rw [mstN_f h67])
        · intro h67
          refine wp_aload0 (pc' := 71) rfl rfl ?_
          refine wp_getRF (pc' := 74) rfl rfl (by first | exact TK.k1 hT rfl | exact TK.kk hT rfl | exact TK.r hT rfl | assumption) (by first | exact TK.k1 hT rfl | exact TK.kk hT rfl | exact TK.r hT rfl | assumption) rfl ?_
          refine wp_iconst (v := nI 0) (pc' := 75) rfl rfl rfl ?_
          refine wp_bipush (v := nI 99) (pc' := 77) rfl rfl rfl ?_
          refine wp_callV3 (pc' := 80) rfl rfl rfl rfl rfl (by first | exact TK.k1 hT rfl | exact TK.kk hT rfl | exact TK.r hT rfl | assumption) rfl rfl ?_
          refine c_takeNumber hT hR hwb.2 ?_
          refine Cont.v ?_
          refine wp_goto rfl ?_
          refine wp_istore4 (pc' := 86) rfl (by first | rfl | assumption) rfl ?_
          refine wp_iload4 (pc' := 88) rfl rfl ?_
          refine wp_iconst (v := (-1)) (pc' := 89) rfl rfl rfl ?_
          refine wp_icmpne (pc' := 92) rfl rfl ?_ ?_
          · intro h89
            obtain ⟨b, q1, eb, hlb, hlob, hupb, hqba, hqbb⟩ := num_some hwb.2 h89
            rw [eb]
            dsimp only [numV, numP]
            have hwc := afB_le (w := kStore) (tv := tv) hqbb
            refine wp_aload0 (pc' := 95) rfl rfl ?_
            refine wp_getRF (pc' := 98) rfl rfl (by first | exact TK.k1 hT rfl | exact TK.kk hT rfl | exact TK.r hT rfl | assumption) (by first | exact TK.k1 hT rfl | exact TK.kk hT rfl | exact TK.r hT rfl | assumption) rfl ?_
            refine wp_pool (v := .ref (lmB + 8)) (pc' := 100) rfl rfl rfl rfl rfl ?_
            refine wp_callV2 (pc' := 103) rfl rfl rfl rfl rfl (by first | exact TK.k1 hT rfl | exact TK.kk hT rfl | exact TK.r hT rfl | assumption) rfl rfl ?_
            refine c_word (w := 4) kStore hT hR hS (by decide) (by decide) (by decide) hqbb ?_
            refine Cont.v ?_
            first | refine wp_ifeqB (pc' := 106) rfl rfl ?_ ?_ | refine wp_ifeq (pc' := 106) rfl rfl ?_ ?_
            · intro h103
              refine wp_iconst (v := nI 0) (pc' := 121) rfl rfl rfl ?_
              refine wp_istore5 (pc' := 123) rfl (by first | rfl | assumption) rfl ?_
              refine wp_iload5 (pc' := 125) rfl rfl ?_
              refine wp_iconst (v := (-1)) (pc' := 126) rfl rfl rfl ?_
              refine wp_icmpneT rfl (by decide) ?_
              refine wp_aload0 (pc' := 132) rfl rfl ?_
              refine wp_getRF (pc' := 135) rfl rfl (by first | exact TK.k1 hT rfl | exact TK.kk hT rfl | exact TK.r hT rfl | assumption) (by first | exact TK.k1 hT rfl | exact TK.kk hT rfl | exact TK.r hT rfl | assumption) rfl ?_
              refine wp_getRF (pc' := 138) rfl rfl (by first | exact TK.k1 hT rfl | exact TK.kk hT rfl | exact TK.r hT rfl | assumption) (by first | exact TK.k1 hT rfl | exact TK.kk hT rfl | exact TK.r hT rfl | assumption) rfl ?_
              refine wp_iload2 (pc' := 139) rfl rfl ?_
              refine wp_iload3 (pc' := 140) rfl rfl ?_
              refine wp_iast _ (pc' := 141) rfl (by first | exact TK.k1 hT rfl | exact TK.kk hT rfl | exact TK.r hT rfl | assumption) (by omega) (by with_reducible rfl) (by omega) (by first | decide | assumption | omega) rfl ?_
              rw [rdM_up2 (by decide)]
              refine wp_aload0 (pc' := 142) rfl rfl ?_
              refine wp_getRF (pc' := 145) rfl rfl (by first | exact TK.k1 hT rfl | exact TK.kk hT rfl | exact TK.r hT rfl | assumption) (by first | exact TK.k1 hT rfl | exact TK.kk hT rfl | exact TK.r hT rfl | assumption) rfl ?_
              refine wp_getRF (pc' := 148) rfl rfl (by first | exact TK.k1 hT rfl | exact TK.kk hT rfl | exact TK.r hT rfl | assumption) (by first | exact TK.k1 hT rfl | exact TK.kk hT rfl | exact TK.r hT rfl | assumption) rfl ?_
              refine wp_iload2 (pc' := 149) rfl rfl ?_
              refine wp_iload4 (pc' := 151) rfl rfl ?_
              refine wp_iast _ (pc' := 152) rfl (by first | exact TK.k1 hT rfl | exact TK.kk hT rfl | exact TK.r hT rfl | assumption) (by omega) (by with_reducible rfl) (by omega) (by first | decide | assumption | omega) rfl ?_
              rw [rdM_up2 (by decide)]
              refine wp_aload0 (pc' := 153) rfl rfl ?_
              refine wp_getRF (pc' := 156) rfl rfl (by first | exact TK.k1 hT rfl | exact TK.kk hT rfl | exact TK.r hT rfl | assumption) (by first | exact TK.k1 hT rfl | exact TK.kk hT rfl | exact TK.r hT rfl | assumption) rfl ?_
              refine wp_getRF (pc' := 159) rfl rfl (by first | exact TK.k1 hT rfl | exact TK.kk hT rfl | exact TK.r hT rfl | assumption) (by first | exact TK.k1 hT rfl | exact TK.kk hT rfl | exact TK.r hT rfl | assumption) rfl ?_
              refine wp_iload2 (pc' := 160) rfl rfl ?_
              refine wp_iload5 (pc' := 162) rfl rfl ?_
              refine wp_iast _ (pc' := 163) rfl (by first | exact TK.k1 hT rfl | exact TK.kk hT rfl | exact TK.r hT rfl | assumption) (by omega) (by with_reducible rfl) (by omega) (by first | decide | assumption | omega) rfl ?_
              rw [rdM_up2 (by decide)]
              refine wp_aload0 (pc' := 164) rfl rfl ?_
              refine wp_getRF (pc' := 167) rfl rfl (by first | exact TK.k1 hT rfl | exact TK.kk hT rfl | exact TK.r hT rfl | assumption) (by first | exact TK.k1 hT rfl | exact TK.kk hT rfl | exact TK.r hT rfl | assumption) rfl ?_
              refine wp_iload2 (pc' := 168) rfl rfl ?_
              refine wp_iconst (v := nI 1) (pc' := 169) rfl rfl rfl ?_
              first | refine wp_iaddN (pc' := 170) rfl (by with_reducible rfl) (by with_reducible rfl) rfl ?_ | refine wp_iadd (pc' := 170) rfl rfl ?_
              refine wp_putI (pc' := 173) rfl rfl (by first | exact TK.k1 hT rfl | exact TK.kk hT rfl | exact TK.r hT rfl | assumption) (by omega) rfl ?_
              rw [rdM_up2 (by decide)]
              refine wp_iconst (v := nI 1) (pc' := 174) rfl rfl rfl ?_
              refine wp_iret rfl rfl (by first | rfl | exact nar_if) ?_
              first | exact kk true _ _ (by unfold heaL; rw [if_neg (by omega)]; rw [mstN_t h33, ← afB_t h33, ea]; dsimp only; rw [mstN_t h67, ← afB_t h67, eb]; dsimp only; rw [optN_f h103, afB_f h103]) | (obtain ⟨y, q3, ey, -, -, -, -, -⟩ := num_some hwc.2 h126; rw [ey]; exact kk true _ _ (by unfold heaL; rw [if_neg (by omega)]; rw [mstN_t h33, ← afB_t h33, ea]; dsimp only; rw [mstN_t h67, ← afB_t h67, eb]; dsimp only; rw [optN_t h103, ← afB_t h103, ey]; rfl))
            · intro h103
              refine wp_aload0 (pc' := 107) rfl rfl ?_
              refine wp_getRF (pc' := 110) rfl rfl (by first | exact TK.k1 hT rfl | exact TK.kk hT rfl | exact TK.r hT rfl | assumption) (by first | exact TK.k1 hT rfl | exact TK.kk hT rfl | exact TK.r hT rfl | assumption) rfl ?_
              refine wp_iconst (v := nI 0) (pc' := 111) rfl rfl rfl ?_
              refine wp_sipush (v := nI 999) (pc' := 114) rfl rfl rfl ?_
              refine wp_callV3 (pc' := 117) rfl rfl rfl rfl rfl (by first | exact TK.k1 hT rfl | exact TK.kk hT rfl | exact TK.r hT rfl | assumption) rfl rfl ?_
              refine c_takeNumber hT hR hwc.2 ?_
              refine Cont.v ?_
              refine wp_goto rfl ?_
              refine wp_istore5 (pc' := 123) rfl (by first | rfl | assumption) rfl ?_
              refine wp_iload5 (pc' := 125) rfl rfl ?_
              refine wp_iconst (v := (-1)) (pc' := 126) rfl rfl rfl ?_
              refine wp_icmpne (pc' := 129) rfl rfl ?_ ?_
              · intro h126
                refine wp_aload0 (pc' := 132) rfl rfl ?_
                refine wp_getRF (pc' := 135) rfl rfl (by first | exact TK.k1 hT rfl | exact TK.kk hT rfl | exact TK.r hT rfl | assumption) (by first | exact TK.k1 hT rfl | exact TK.kk hT rfl | exact TK.r hT rfl | assumption) rfl ?_
                refine wp_getRF (pc' := 138) rfl rfl (by first | exact TK.k1 hT rfl | exact TK.kk hT rfl | exact TK.r hT rfl | assumption) (by first | exact TK.k1 hT rfl | exact TK.kk hT rfl | exact TK.r hT rfl | assumption) rfl ?_
                refine wp_iload2 (pc' := 139) rfl rfl ?_
                refine wp_iload3 (pc' := 140) rfl rfl ?_
                refine wp_iast _ (pc' := 141) rfl (by first | exact TK.k1 hT rfl | exact TK.kk hT rfl | exact TK.r hT rfl | assumption) (by omega) (by with_reducible rfl) (by omega) (by first | decide | assumption | omega) rfl ?_
                rw [rdM_up2 (by decide)]
                refine wp_aload0 (pc' := 142) rfl rfl ?_
                refine wp_getRF (pc' := 145) rfl rfl (by first | exact TK.k1 hT rfl | exact TK.kk hT rfl | exact TK.r hT rfl | assumption) (by first | exact TK.k1 hT rfl | exact TK.kk hT rfl | exact TK.r hT rfl | assumption) rfl ?_
                refine wp_getRF (pc' := 148) rfl rfl (by first | exact TK.k1 hT rfl | exact TK.kk hT rfl | exact TK.r hT rfl | assumption) (by first | exact TK.k1 hT rfl | exact TK.kk hT rfl | exact TK.r hT rfl | assumption) rfl ?_
                refine wp_iload2 (pc' := 149) rfl rfl ?_
                refine wp_iload4 (pc' := 151) rfl rfl ?_
                refine wp_iast _ (pc' := 152) rfl (by first | exact TK.k1 hT rfl | exact TK.kk hT rfl | exact TK.r hT rfl | assumption) (by omega) (by with_reducible rfl) (by omega) (by first | decide | assumption | omega) rfl ?_
                rw [rdM_up2 (by decide)]
                refine wp_aload0 (pc' := 153) rfl rfl ?_
                refine wp_getRF (pc' := 156) rfl rfl (by first | exact TK.k1 hT rfl | exact TK.kk hT rfl | exact TK.r hT rfl | assumption) (by first | exact TK.k1 hT rfl | exact TK.kk hT rfl | exact TK.r hT rfl | assumption) rfl ?_
                refine wp_getRF (pc' := 159) rfl rfl (by first | exact TK.k1 hT rfl | exact TK.kk hT rfl | exact TK.r hT rfl | assumption) (by first | exact TK.k1 hT rfl | exact TK.kk hT rfl | exact TK.r hT rfl | assumption) rfl ?_
                refine wp_iload2 (pc' := 160) rfl rfl ?_
                refine wp_iload5 (pc' := 162) rfl rfl ?_
                refine wp_iast _ (pc' := 163) rfl (by first | exact TK.k1 hT rfl | exact TK.kk hT rfl | exact TK.r hT rfl | assumption) (by omega) (by with_reducible rfl) (by omega) (by first | decide | assumption | omega) rfl ?_
                rw [rdM_up2 (by decide)]
                refine wp_aload0 (pc' := 164) rfl rfl ?_
                refine wp_getRF (pc' := 167) rfl rfl (by first | exact TK.k1 hT rfl | exact TK.kk hT rfl | exact TK.r hT rfl | assumption) (by first | exact TK.k1 hT rfl | exact TK.kk hT rfl | exact TK.r hT rfl | assumption) rfl ?_
                refine wp_iload2 (pc' := 168) rfl rfl ?_
                refine wp_iconst (v := nI 1) (pc' := 169) rfl rfl rfl ?_
                first | refine wp_iaddN (pc' := 170) rfl (by with_reducible rfl) (by with_reducible rfl) rfl ?_ | refine wp_iadd (pc' := 170) rfl rfl ?_
                refine wp_putI (pc' := 173) rfl rfl (by first | exact TK.k1 hT rfl | exact TK.kk hT rfl | exact TK.r hT rfl | assumption) (by omega) rfl ?_
                rw [rdM_up2 (by decide)]
                refine wp_iconst (v := nI 1) (pc' := 174) rfl rfl rfl ?_
                refine wp_iret rfl rfl (by first | rfl | exact nar_if) ?_
                first | exact kk true _ _ (by unfold heaL; rw [if_neg (by omega)]; rw [mstN_t h33, ← afB_t h33, ea]; dsimp only; rw [mstN_t h67, ← afB_t h67, eb]; dsimp only; rw [optN_f h103, afB_f h103]) | (obtain ⟨y, q3, ey, -, -, -, -, -⟩ := num_some hwc.2 h126; rw [ey]; exact kk true _ _ (by unfold heaL; rw [if_neg (by omega)]; rw [mstN_t h33, ← afB_t h33, ea]; dsimp only; rw [mstN_t h67, ← afB_t h67, eb]; dsimp only; rw [optN_t h103, ← afB_t h103, ey]; rfl))
              · intro h126
                refine wp_iconst (v := nI 0) (pc' := 130) rfl rfl rfl ?_
                refine wp_iret rfl rfl (by first | rfl | exact nar_if) ?_
                have e := num_none hwc.2 h126
                rw [e]
                exact kk false I _ (by unfold heaL; rw [if_neg (by omega)]; rw [mstN_t h33, ← afB_t h33, ea]; dsimp only; rw [mstN_t h67, ← afB_t h67, eb]; dsimp only; rw [optN_t h103, ← afB_t h103, e]; rfl)
          · intro h89
            refine wp_iconst (v := nI 0) (pc' := 93) rfl rfl rfl ?_
            refine wp_iret rfl rfl (by first | rfl | exact nar_if) ?_
            first | (have e := num_none hwb.2 h89; rw [e]; exact kk false I _ (by unfold heaL; rw [if_neg (by omega)]; rw [mstN_t h33, ← afB_t h33, ea]; dsimp only; rw [mstN_t h67, ← afB_t h67, e]; rfl)) | exact kk false I _ (by unfold heaL; rw [if_neg (by omega)]; rw [mstN_t h33, ← afB_t h33, ea]; dsimp only; rw [mstN_f h67])
      · intro h53
        refine wp_iconst (v := nI 0) (pc' := 57) rfl rfl rfl ?_
        refine wp_iret rfl rfl (by first | rfl | exact nar_if) ?_
        first | (have e := num_none hwa.2 h53; rw [e]; exact kk false I _ (by unfold heaL; rw [if_neg (by omega)]; rw [mstN_t h33, ← afB_t h33, e]; rfl)) | exact kk false I _ (by unfold heaL; rw [if_neg (by omega)]; rw [mstN_f h33])
  · intro h11
    refine wp_aload0 (pc' := 15) rfl rfl ?_
    refine wp_getRF (pc' := 18) rfl rfl (by first | exact TK.k1 hT rfl | exact TK.kk hT rfl | exact TK.r hT rfl | assumption) (by first | exact TK.k1 hT rfl | exact TK.kk hT rfl | exact TK.r hT rfl | assumption) rfl ?_
    refine wp_iload1 (pc' := 19) rfl rfl ?_
    refine wp_putI (pc' := 22) rfl rfl (by first | exact TK.k1 hT rfl | exact TK.kk hT rfl | exact TK.r hT rfl | assumption) (by omega) rfl ?_
    rw [rdM_rdM]
    refine wp_iconst (v := nI 0) (pc' := 23) rfl rfl rfl ?_
    refine wp_iret rfl rfl (by first | rfl | exact nar_if) ?_
    exact kk false I b0 (by unfold heaL; rw [if_pos (ge_nI h11 (by decide))])
theorem c_line0 {d : Nat} {K : Nat → Nat × Nat} {I : Nat → Nat → Int32} {L : Nat → Nat → Int64} {R : Nat → Nat → Option Nat} {n s : Nat} {Q : Lo → Lm → Prop} {T p : Nat} {tv : Nat → Nat} {H : Nat} (hT : TK K R n) (hR : RdI I T tv) (hS : SS K I R) (hp : p ≤ T) (hH : I 13 10 = nI H) (hH6 : H ≤ 6) (hk : wd tv T p bogW = some 0) (kk : ∀ b J q, linL tv T I p H = (b, J, q) → Q (.inl (some (.int (if b = true then nI 1 else nI 0)))) (K, rdM J q, L, R, n, s)) : Ok (d + 7) 71 [.ref 40] (K, rdM (I) (p), L, R, n, s) Q := by
  obtain ⟨-, -, hn⟩ := id hT
  obtain ⟨hL, hT4, htv, htl⟩ := id hR
  have hq := (af_ge (tv := tv) hp).2
  refine Ok.enter (F := F_71) (ls := [.ref 40, lDead, lDead]) rfl rfl ?_
  refine wp_aload0 (pc' := 1) rfl rfl ?_
  refine wp_getRF (pc' := 4) rfl rfl (by first | exact TK.k1 hT rfl | exact TK.kk hT rfl | exact TK.r hT rfl | assumption) (by first | exact TK.k1 hT rfl | exact TK.kk hT rfl | exact TK.r hT rfl | assumption) rfl ?_
  refine wp_getI (pc' := 7) rfl rfl (by first | exact TK.k1 hT rfl | exact TK.kk hT rfl | exact TK.r hT rfl | assumption) rfl ?_
  rw [rdM_2]
  refine wp_istore1 (pc' := 8) rfl (by first | rfl | assumption) rfl ?_
  refine wp_aload0 (pc' := 9) rfl rfl ?_
  refine wp_getRF (pc' := 12) rfl rfl (by first | exact TK.k1 hT rfl | exact TK.kk hT rfl | exact TK.r hT rfl | assumption) (by first | exact TK.k1 hT rfl | exact TK.kk hT rfl | exact TK.r hT rfl | assumption) rfl ?_
  refine wp_pool (v := .ref (lmB + 0)) (pc' := 14) rfl rfl rfl rfl rfl ?_
  refine wp_callV2 (pc' := 17) rfl rfl rfl rfl rfl (by first | exact TK.k1 hT rfl | exact TK.kk hT rfl | exact TK.r hT rfl | assumption) rfl rfl ?_
  refine c_pick (w := 0) bogW hT hR hS (by decide) (by decide) (by decide) hp (fun h => ?_) (fun k h => ?_)
  · rw [h] at hk; cases hk
  obtain rfl : k = 0 := by rw [h] at hk; cases hk; rfl
  refine Cont.v ?_
  refine wp_istore2 (pc' := 18) rfl (by first | rfl | assumption) rfl ?_
  refine wp_iload2 (pc' := 19) rfl rfl ?_
  refine wp_sw (tg := 56) rfl rfl ?_
  refine wp_aload0 (pc' := 57) rfl rfl ?_
  refine wp_aload0 (pc' := 58) rfl rfl ?_
  refine wp_getRF (pc' := 61) rfl rfl (by first | exact TK.k1 hT rfl | exact TK.kk hT rfl | exact TK.r hT rfl | assumption) (by first | exact TK.k1 hT rfl | exact TK.kk hT rfl | exact TK.r hT rfl | assumption) rfl ?_
  refine wp_getRF (pc' := 64) rfl rfl (by first | exact TK.k1 hT rfl | exact TK.kk hT rfl | exact TK.r hT rfl | assumption) (by first | exact TK.k1 hT rfl | exact TK.kk hT rfl | exact TK.r hT rfl | assumption) rfl ?_
  refine wp_callV2 (pc' := 67) rfl rfl rfl rfl rfl (by first | exact TK.k1 hT rfl | exact TK.kk hT rfl | exact TK.r hT rfl | assumption) rfl rfl ?_
  refine c_readRow (a := 14) hT hR hq (TK.kk hT rfl) (by decide) (fun b J q e => ?_)
  refine Cont.v ?_
  refine wp_iret rfl rfl (by first | rfl | exact nar_if) ?_
  exact kk b J q (by unfold linL; rw [hk]; exact e)
theorem c_line1 {d : Nat} {K : Nat → Nat × Nat} {I : Nat → Nat → Int32} {L : Nat → Nat → Int64} {R : Nat → Nat → Option Nat} {n s : Nat} {Q : Lo → Lm → Prop} {T p : Nat} {tv : Nat → Nat} {H : Nat} (hT : TK K R n) (hR : RdI I T tv) (hS : SS K I R) (hp : p ≤ T) (hH : I 13 10 = nI H) (hH6 : H ≤ 6) (hk : wd tv T p bogW = some 1) (kk : ∀ b J q, linL tv T I p H = (b, J, q) → Q (.inl (some (.int (if b = true then nI 1 else nI 0)))) (K, rdM J q, L, R, n, s)) : Ok (d + 7) 71 [.ref 40] (K, rdM (I) (p), L, R, n, s) Q := by
  obtain ⟨-, -, hn⟩ := id hT
  obtain ⟨hL, hT4, htv, htl⟩ := id hR
  have hq := (af_ge (tv := tv) hp).2
  refine Ok.enter (F := F_71) (ls := [.ref 40, lDead, lDead]) rfl rfl ?_
  refine wp_aload0 (pc' := 1) rfl rfl ?_
  refine wp_getRF (pc' := 4) rfl rfl (by first | exact TK.k1 hT rfl | exact TK.kk hT rfl | exact TK.r hT rfl | assumption) (by first | exact TK.k1 hT rfl | exact TK.kk hT rfl | exact TK.r hT rfl | assumption) rfl ?_
  refine wp_getI (pc' := 7) rfl rfl (by first | exact TK.k1 hT rfl | exact TK.kk hT rfl | exact TK.r hT rfl | assumption) rfl ?_
  rw [rdM_2]
  refine wp_istore1 (pc' := 8) rfl (by first | rfl | assumption) rfl ?_
  refine wp_aload0 (pc' := 9) rfl rfl ?_
  refine wp_getRF (pc' := 12) rfl rfl (by first | exact TK.k1 hT rfl | exact TK.kk hT rfl | exact TK.r hT rfl | assumption) (by first | exact TK.k1 hT rfl | exact TK.kk hT rfl | exact TK.r hT rfl | assumption) rfl ?_
  refine wp_pool (v := .ref (lmB + 0)) (pc' := 14) rfl rfl rfl rfl rfl ?_
  refine wp_callV2 (pc' := 17) rfl rfl rfl rfl rfl (by first | exact TK.k1 hT rfl | exact TK.kk hT rfl | exact TK.r hT rfl | assumption) rfl rfl ?_
  refine c_pick (w := 0) bogW hT hR hS (by decide) (by decide) (by decide) hp (fun h => ?_) (fun k h => ?_)
  · rw [h] at hk; cases hk
  obtain rfl : k = 1 := by rw [h] at hk; cases hk; rfl
  refine Cont.v ?_
  refine wp_istore2 (pc' := 18) rfl (by first | rfl | assumption) rfl ?_
  refine wp_iload2 (pc' := 19) rfl rfl ?_
  refine wp_sw (tg := 68) rfl rfl ?_
  refine wp_aload0 (pc' := 69) rfl rfl ?_
  refine wp_aload0 (pc' := 70) rfl rfl ?_
  refine wp_getRF (pc' := 73) rfl rfl (by first | exact TK.k1 hT rfl | exact TK.kk hT rfl | exact TK.r hT rfl | assumption) (by first | exact TK.k1 hT rfl | exact TK.kk hT rfl | exact TK.r hT rfl | assumption) rfl ?_
  refine wp_getRF (pc' := 76) rfl rfl (by first | exact TK.k1 hT rfl | exact TK.kk hT rfl | exact TK.r hT rfl | assumption) (by first | exact TK.k1 hT rfl | exact TK.kk hT rfl | exact TK.r hT rfl | assumption) rfl ?_
  refine wp_callV2 (pc' := 79) rfl rfl rfl rfl rfl (by first | exact TK.k1 hT rfl | exact TK.kk hT rfl | exact TK.r hT rfl | assumption) rfl rfl ?_
  refine c_readRow (a := 15) hT hR hq (TK.kk hT rfl) (by decide) (fun b J q e => ?_)
  refine Cont.v ?_
  refine wp_iret rfl rfl (by first | rfl | exact nar_if) ?_
  exact kk b J q (by unfold linL; rw [hk]; exact e)
theorem c_line2 {d : Nat} {K : Nat → Nat × Nat} {I : Nat → Nat → Int32} {L : Nat → Nat → Int64} {R : Nat → Nat → Option Nat} {n s : Nat} {Q : Lo → Lm → Prop} {T p : Nat} {tv : Nat → Nat} {H : Nat} (hT : TK K R n) (hR : RdI I T tv) (hS : SS K I R) (hp : p ≤ T) (hH : I 13 10 = nI H) (hH6 : H ≤ 6) (hk : wd tv T p bogW = some 2) (kk : ∀ b J q, linL tv T I p H = (b, J, q) → Q (.inl (some (.int (if b = true then nI 1 else nI 0)))) (K, rdM J q, L, R, n, s)) : Ok (d + 7) 71 [.ref 40] (K, rdM (I) (p), L, R, n, s) Q := by
  obtain ⟨-, -, hn⟩ := id hT
  obtain ⟨hL, hT4, htv, htl⟩ := id hR
  have hq := (af_ge (tv := tv) hp).2
  refine Ok.enter (F := F_71) (ls := [.ref 40, lDead, lDead]) rfl rfl ?_
  refine wp_aload0 (pc' := 1) rfl rfl ?_
  refine wp_getRF (pc' := 4) rfl rfl (by first | exact TK.k1 hT rfl | exact TK.kk hT rfl | exact TK.r hT rfl | assumption) (by first | exact TK.k1 hT rfl | exact TK.kk hT rfl | exact TK.r hT rfl | assumption) rfl ?_
  refine wp_getI (pc' := 7) rfl rfl (by first | exact TK.k1 hT rfl | exact TK.kk hT rfl | exact TK.r hT rfl | assumption) rfl ?_
  rw [rdM_2]
  refine wp_istore1 (pc' := 8) rfl (by first | rfl | assumption) rfl ?_
  refine wp_aload0 (pc' := 9) rfl rfl ?_
  refine wp_getRF (pc' := 12) rfl rfl (by first | exact TK.k1 hT rfl | exact TK.kk hT rfl | exact TK.r hT rfl | assumption) (by first | exact TK.k1 hT rfl | exact TK.kk hT rfl | exact TK.r hT rfl | assumption) rfl ?_
  refine wp_pool (v := .ref (lmB + 0)) (pc' := 14) rfl rfl rfl rfl rfl ?_
  refine wp_callV2 (pc' := 17) rfl rfl rfl rfl rfl (by first | exact TK.k1 hT rfl | exact TK.kk hT rfl | exact TK.r hT rfl | assumption) rfl rfl ?_
  refine c_pick (w := 0) bogW hT hR hS (by decide) (by decide) (by decide) hp (fun h => ?_) (fun k h => ?_)
  · rw [h] at hk; cases hk
  obtain rfl : k = 2 := by rw [h] at hk; cases hk; rfl
  refine Cont.v ?_
  refine wp_istore2 (pc' := 18) rfl (by first | rfl | assumption) rfl ?_
  refine wp_iload2 (pc' := 19) rfl rfl ?_
  refine wp_sw (tg := 80) rfl rfl ?_
  refine wp_aload0 (pc' := 81) rfl rfl ?_
  refine wp_callV1 (pc' := 84) rfl rfl rfl rfl rfl (by first | exact TK.k1 hT rfl | exact TK.kk hT rfl | exact TK.r hT rfl | assumption) rfl rfl ?_
  refine c_readDrains hT hR hq (fun b J q e => ?_)
  refine Cont.v ?_
  refine wp_iret rfl rfl (by first | rfl | exact nar_if) ?_
  exact kk b J q (by unfold linL; rw [hk]; exact e)
theorem c_line3 {d : Nat} {K : Nat → Nat × Nat} {I : Nat → Nat → Int32} {L : Nat → Nat → Int64} {R : Nat → Nat → Option Nat} {n s : Nat} {Q : Lo → Lm → Prop} {T p : Nat} {tv : Nat → Nat} {H : Nat} (hT : TK K R n) (hR : RdI I T tv) (hS : SS K I R) (hp : p ≤ T) (hH : I 13 10 = nI H) (hH6 : H ≤ 6) (hk : wd tv T p bogW = some 3) (kk : ∀ b J q, linL tv T I p H = (b, J, q) → Q (.inl (some (.int (if b = true then nI 1 else nI 0)))) (K, rdM J q, L, R, n, s)) : Ok (d + 7) 71 [.ref 40] (K, rdM (I) (p), L, R, n, s) Q := by
  obtain ⟨-, -, hn⟩ := id hT
  obtain ⟨hL, hT4, htv, htl⟩ := id hR
  have hq := (af_ge (tv := tv) hp).2
  refine Ok.enter (F := F_71) (ls := [.ref 40, lDead, lDead]) rfl rfl ?_
  refine wp_aload0 (pc' := 1) rfl rfl ?_
  refine wp_getRF (pc' := 4) rfl rfl (by first | exact TK.k1 hT rfl | exact TK.kk hT rfl | exact TK.r hT rfl | assumption) (by first | exact TK.k1 hT rfl | exact TK.kk hT rfl | exact TK.r hT rfl | assumption) rfl ?_
  refine wp_getI (pc' := 7) rfl rfl (by first | exact TK.k1 hT rfl | exact TK.kk hT rfl | exact TK.r hT rfl | assumption) rfl ?_
  rw [rdM_2]
  refine wp_istore1 (pc' := 8) rfl (by first | rfl | assumption) rfl ?_
  refine wp_aload0 (pc' := 9) rfl rfl ?_
  refine wp_getRF (pc' := 12) rfl rfl (by first | exact TK.k1 hT rfl | exact TK.kk hT rfl | exact TK.r hT rfl | assumption) (by first | exact TK.k1 hT rfl | exact TK.kk hT rfl | exact TK.r hT rfl | assumption) rfl ?_
  refine wp_pool (v := .ref (lmB + 0)) (pc' := 14) rfl rfl rfl rfl rfl ?_
  refine wp_callV2 (pc' := 17) rfl rfl rfl rfl rfl (by first | exact TK.k1 hT rfl | exact TK.kk hT rfl | exact TK.r hT rfl | assumption) rfl rfl ?_
  refine c_pick (w := 0) bogW hT hR hS (by decide) (by decide) (by decide) hp (fun h => ?_) (fun k h => ?_)
  · rw [h] at hk; cases hk
  obtain rfl : k = 3 := by rw [h] at hk; cases hk; rfl
  refine Cont.v ?_
  refine wp_istore2 (pc' := 18) rfl (by first | rfl | assumption) rfl ?_
  refine wp_iload2 (pc' := 19) rfl rfl ?_
  refine wp_sw (tg := 85) rfl rfl ?_
  refine wp_aload0 (pc' := 86) rfl rfl ?_
  refine wp_callV1 (pc' := 89) rfl rfl rfl rfl rfl (by first | exact TK.k1 hT rfl | exact TK.kk hT rfl | exact TK.r hT rfl | assumption) rfl rfl ?_
  refine c_readTurves hT hR hS hq (fun b J q e => ?_)
  refine Cont.v ?_
  refine wp_iret rfl rfl (by first | rfl | exact nar_if) ?_
  exact kk b J q (by unfold linL; rw [hk]; exact e)
theorem c_line4 {d : Nat} {K : Nat → Nat × Nat} {I : Nat → Nat → Int32} {L : Nat → Nat → Int64} {R : Nat → Nat → Option Nat} {n s : Nat} {Q : Lo → Lm → Prop} {T p : Nat} {tv : Nat → Nat} {H : Nat} (hT : TK K R n) (hR : RdI I T tv) (hS : SS K I R) (hp : p ≤ T) (hH : I 13 10 = nI H) (hH6 : H ≤ 6) (hk : wd tv T p bogW = some 4) (kk : ∀ b J q, linL tv T I p H = (b, J, q) → Q (.inl (some (.int (if b = true then nI 1 else nI 0)))) (K, rdM J q, L, R, n, s)) : Ok (d + 7) 71 [.ref 40] (K, rdM (I) (p), L, R, n, s) Q := by
  obtain ⟨-, -, hn⟩ := id hT
  obtain ⟨hL, hT4, htv, htl⟩ := id hR
  have hq := (af_ge (tv := tv) hp).2
  refine Ok.enter (F := F_71) (ls := [.ref 40, lDead, lDead]) rfl rfl ?_
  refine wp_aload0 (pc' := 1) rfl rfl ?_
  refine wp_getRF (pc' := 4) rfl rfl (by first | exact TK.k1 hT rfl | exact TK.kk hT rfl | exact TK.r hT rfl | assumption) (by first | exact TK.k1 hT rfl | exact TK.kk hT rfl | exact TK.r hT rfl | assumption) rfl ?_
  refine wp_getI (pc' := 7) rfl rfl (by first | exact TK.k1 hT rfl | exact TK.kk hT rfl | exact TK.r hT rfl | assumption) rfl ?_
  rw [rdM_2]
  refine wp_istore1 (pc' := 8) rfl (by first | rfl | assumption) rfl ?_
  refine wp_aload0 (pc' := 9) rfl rfl ?_
  refine wp_getRF (pc' := 12) rfl rfl (by first | exact TK.k1 hT rfl | exact TK.kk hT rfl | exact TK.r hT rfl | assumption) (by first | exact TK.k1 hT rfl | exact TK.kk hT rfl | exact TK.r hT rfl | assumption) rfl ?_
  refine wp_pool (v := .ref (lmB + 0)) (pc' := 14) rfl rfl rfl rfl rfl ?_
  refine wp_callV2 (pc' := 17) rfl rfl rfl rfl rfl (by first | exact TK.k1 hT rfl | exact TK.kk hT rfl | exact TK.r hT rfl | assumption) rfl rfl ?_
  refine c_pick (w := 0) bogW hT hR hS (by decide) (by decide) (by decide) hp (fun h => ?_) (fun k h => ?_)
  · rw [h] at hk; cases hk
  obtain rfl : k = 4 := by rw [h] at hk; cases hk; rfl
  refine Cont.v ?_
  refine wp_istore2 (pc' := 18) rfl (by first | rfl | assumption) rfl ?_
  refine wp_iload2 (pc' := 19) rfl rfl ?_
  refine wp_sw (tg := 90) rfl rfl ?_
  refine wp_aload0 (pc' := 91) rfl rfl ?_
  refine wp_iload1 (pc' := 92) rfl rfl ?_
  refine wp_callV2 (pc' := 95) rfl rfl rfl rfl rfl (by first | exact TK.k1 hT rfl | exact TK.kk hT rfl | exact TK.r hT rfl | assumption) rfl rfl ?_
  refine c_readHearth hT hR hS hq hH hH6 (fun b J q e => ?_)
  refine Cont.v ?_
  refine wp_iret rfl rfl (by first | rfl | exact nar_if) ?_
  exact kk b J q (by unfold linL; rw [hk]; exact e)
theorem c_line5 {d : Nat} {K : Nat → Nat × Nat} {I : Nat → Nat → Int32} {L : Nat → Nat → Int64} {R : Nat → Nat → Option Nat} {n s : Nat} {Q : Lo → Lm → Prop} {T p : Nat} {tv : Nat → Nat} {H : Nat} (hT : TK K R n) (hR : RdI I T tv) (hS : SS K I R) (hp : p ≤ T) (hH : I 13 10 = nI H) (hH6 : H ≤ 6) (hk : wd tv T p bogW = some 5) (kk : ∀ b J q, linL tv T I p H = (b, J, q) → Q (.inl (some (.int (if b = true then nI 1 else nI 0)))) (K, rdM J q, L, R, n, s)) : Ok (d + 7) 71 [.ref 40] (K, rdM (I) (p), L, R, n, s) Q := by
  obtain ⟨-, -, hn⟩ := id hT
  obtain ⟨hL, hT4, htv, htl⟩ := id hR
  have hq := (af_ge (tv := tv) hp).2
  refine Ok.enter (F := F_71) (ls := [.ref 40, lDead, lDead]) rfl rfl ?_
  refine wp_aload0 (pc' := 1) rfl rfl ?_
  refine wp_getRF (pc' := 4) rfl rfl (by first | exact TK.k1 hT rfl | exact TK.kk hT rfl | exact TK.r hT rfl | assumption) (by first | exact TK.k1 hT rfl | exact TK.kk hT rfl | exact TK.r hT rfl | assumption) rfl ?_
  refine wp_getI (pc' := 7) rfl rfl (by first | exact TK.k1 hT rfl | exact TK.kk hT rfl | exact TK.r hT rfl | assumption) rfl ?_
  rw [rdM_2]
  refine wp_istore1 (pc' := 8) rfl (by first | rfl | assumption) rfl ?_
  refine wp_aload0 (pc' := 9) rfl rfl ?_
  refine wp_getRF (pc' := 12) rfl rfl (by first | exact TK.k1 hT rfl | exact TK.kk hT rfl | exact TK.r hT rfl | assumption) (by first | exact TK.k1 hT rfl | exact TK.kk hT rfl | exact TK.r hT rfl | assumption) rfl ?_
  refine wp_pool (v := .ref (lmB + 0)) (pc' := 14) rfl rfl rfl rfl rfl ?_
  refine wp_callV2 (pc' := 17) rfl rfl rfl rfl rfl (by first | exact TK.k1 hT rfl | exact TK.kk hT rfl | exact TK.r hT rfl | assumption) rfl rfl ?_
  refine c_pick (w := 0) bogW hT hR hS (by decide) (by decide) (by decide) hp (fun h => ?_) (fun k h => ?_)
  · rw [h] at hk; cases hk
  obtain rfl : k = 5 := by rw [h] at hk; cases hk; rfl
  refine Cont.v ?_
  refine wp_istore2 (pc' := 18) rfl (by first | rfl | assumption) rfl ?_
  refine wp_iload2 (pc' := 19) rfl rfl ?_
  refine wp_sw (tg := 96) rfl rfl ?_
  refine wp_aload0 (pc' := 97) rfl rfl ?_
  refine wp_callV1 (pc' := 100) rfl rfl rfl rfl rfl (by first | exact TK.k1 hT rfl | exact TK.kk hT rfl | exact TK.r hT rfl | assumption) rfl rfl ?_
  refine c_readRights hT hR hq hH hH6 (fun b J q e => ?_)
  refine Cont.v ?_
  refine wp_iret rfl rfl (by first | rfl | exact nar_if) ?_
  exact kk b J q (by unfold linL; rw [hk]; exact e)
theorem c_line6 {d : Nat} {K : Nat → Nat × Nat} {I : Nat → Nat → Int32} {L : Nat → Nat → Int64} {R : Nat → Nat → Option Nat} {n s : Nat} {Q : Lo → Lm → Prop} {T p : Nat} {tv : Nat → Nat} {H : Nat} (hT : TK K R n) (hR : RdI I T tv) (hS : SS K I R) (hp : p ≤ T) (hH : I 13 10 = nI H) (hH6 : H ≤ 6) (hk : wd tv T p bogW = some 6) (kk : ∀ b J q, linL tv T I p H = (b, J, q) → Q (.inl (some (.int (if b = true then nI 1 else nI 0)))) (K, rdM J q, L, R, n, s)) : Ok (d + 7) 71 [.ref 40] (K, rdM (I) (p), L, R, n, s) Q := by
  obtain ⟨-, -, hn⟩ := id hT
  obtain ⟨hL, hT4, htv, htl⟩ := id hR
  have hq := (af_ge (tv := tv) hp).2
  refine Ok.enter (F := F_71) (ls := [.ref 40, lDead, lDead]) rfl rfl ?_
  refine wp_aload0 (pc' := 1) rfl rfl ?_
  refine wp_getRF (pc' := 4) rfl rfl (by first | exact TK.k1 hT rfl | exact TK.kk hT rfl | exact TK.r hT rfl | assumption) (by first | exact TK.k1 hT rfl | exact TK.kk hT rfl | exact TK.r hT rfl | assumption) rfl ?_
  refine wp_getI (pc' := 7) rfl rfl (by first | exact TK.k1 hT rfl | exact TK.kk hT rfl | exact TK.r hT rfl | assumption) rfl ?_
  rw [rdM_2]
  refine wp_istore1 (pc' := 8) rfl (by first | rfl | assumption) rfl ?_
  refine wp_aload0 (pc' := 9) rfl rfl ?_
  refine wp_getRF (pc' := 12) rfl rfl (by first | exact TK.k1 hT rfl | exact TK.kk hT rfl | exact TK.r hT rfl | assumption) (by first | exact TK.k1 hT rfl | exact TK.kk hT rfl | exact TK.r hT rfl | assumption) rfl ?_
  refine wp_pool (v := .ref (lmB + 0)) (pc' := 14) rfl rfl rfl rfl rfl ?_
  refine wp_callV2 (pc' := 17) rfl rfl rfl rfl rfl (by first | exact TK.k1 hT rfl | exact TK.kk hT rfl | exact TK.r hT rfl | assumption) rfl rfl ?_
  refine c_pick (w := 0) bogW hT hR hS (by decide) (by decide) (by decide) hp (fun h => ?_) (fun k h => ?_)
  · rw [h] at hk; cases hk
  obtain rfl : k = 6 := by rw [h] at hk; cases hk; rfl
  refine Cont.v ?_
  refine wp_istore2 (pc' := 18) rfl (by first | rfl | assumption) rfl ?_
  refine wp_iload2 (pc' := 19) rfl rfl ?_
  refine wp_sw (tg := 101) rfl rfl ?_
  refine wp_aload0 (pc' := 102) rfl rfl ?_
  refine wp_iload2 (pc' := 103) rfl rfl ?_
  refine wp_callV2 (pc' := 106) rfl rfl rfl rfl rfl (by first | exact TK.k1 hT rfl | exact TK.kk hT rfl | exact TK.r hT rfl | assumption) rfl rfl ?_
  refine c_sky6 hT hR hq (fun b J q e => ?_)
  refine Cont.v ?_
  refine wp_iret rfl rfl (by first | rfl | exact nar_if) ?_
  exact kk b J q (by unfold linL; rw [hk]; exact e)
theorem c_line7 {d : Nat} {K : Nat → Nat × Nat} {I : Nat → Nat → Int32} {L : Nat → Nat → Int64} {R : Nat → Nat → Option Nat} {n s : Nat} {Q : Lo → Lm → Prop} {T p : Nat} {tv : Nat → Nat} {H : Nat} (hT : TK K R n) (hR : RdI I T tv) (hS : SS K I R) (hp : p ≤ T) (hH : I 13 10 = nI H) (hH6 : H ≤ 6) (hk : wd tv T p bogW = some 7) (kk : ∀ b J q, linL tv T I p H = (b, J, q) → Q (.inl (some (.int (if b = true then nI 1 else nI 0)))) (K, rdM J q, L, R, n, s)) : Ok (d + 7) 71 [.ref 40] (K, rdM (I) (p), L, R, n, s) Q := by
  obtain ⟨-, -, hn⟩ := id hT
  obtain ⟨hL, hT4, htv, htl⟩ := id hR
  have hq := (af_ge (tv := tv) hp).2
  refine Ok.enter (F := F_71) (ls := [.ref 40, lDead, lDead]) rfl rfl ?_
  refine wp_aload0 (pc' := 1) rfl rfl ?_
  refine wp_getRF (pc' := 4) rfl rfl (by first | exact TK.k1 hT rfl | exact TK.kk hT rfl | exact TK.r hT rfl | assumption) (by first | exact TK.k1 hT rfl | exact TK.kk hT rfl | exact TK.r hT rfl | assumption) rfl ?_
  refine wp_getI (pc' := 7) rfl rfl (by first | exact TK.k1 hT rfl | exact TK.kk hT rfl | exact TK.r hT rfl | assumption) rfl ?_
  rw [rdM_2]
  refine wp_istore1 (pc' := 8) rfl (by first | rfl | assumption) rfl ?_
  refine wp_aload0 (pc' := 9) rfl rfl ?_
  refine wp_getRF (pc' := 12) rfl rfl (by first | exact TK.k1 hT rfl | exact TK.kk hT rfl | exact TK.r hT rfl | assumption) (by first | exact TK.k1 hT rfl | exact TK.kk hT rfl | exact TK.r hT rfl | assumption) rfl ?_
  refine wp_pool (v := .ref (lmB + 0)) (pc' := 14) rfl rfl rfl rfl rfl ?_
  refine wp_callV2 (pc' := 17) rfl rfl rfl rfl rfl (by first | exact TK.k1 hT rfl | exact TK.kk hT rfl | exact TK.r hT rfl | assumption) rfl rfl ?_
  refine c_pick (w := 0) bogW hT hR hS (by decide) (by decide) (by decide) hp (fun h => ?_) (fun k h => ?_)
  · rw [h] at hk; cases hk
  obtain rfl : k = 7 := by rw [h] at hk; cases hk; rfl
  refine Cont.v ?_
  refine wp_istore2 (pc' := 18) rfl (by first | rfl | assumption) rfl ?_
  refine wp_iload2 (pc' := 19) rfl rfl ?_
  refine wp_sw (tg := 101) rfl rfl ?_
  refine wp_aload0 (pc' := 102) rfl rfl ?_
  refine wp_iload2 (pc' := 103) rfl rfl ?_
  refine wp_callV2 (pc' := 106) rfl rfl rfl rfl rfl (by first | exact TK.k1 hT rfl | exact TK.kk hT rfl | exact TK.r hT rfl | assumption) rfl rfl ?_
  refine c_sky7 hT hR hq (fun b J q e => ?_)
  refine Cont.v ?_
  refine wp_iret rfl rfl (by first | rfl | exact nar_if) ?_
  exact kk b J q (by unfold linL; rw [hk]; exact e)
theorem c_line8 {d : Nat} {K : Nat → Nat × Nat} {I : Nat → Nat → Int32} {L : Nat → Nat → Int64} {R : Nat → Nat → Option Nat} {n s : Nat} {Q : Lo → Lm → Prop} {T p : Nat} {tv : Nat → Nat} {H : Nat} (hT : TK K R n) (hR : RdI I T tv) (hS : SS K I R) (hp : p ≤ T) (hH : I 13 10 = nI H) (hH6 : H ≤ 6) (hk : wd tv T p bogW = some 8) (kk : ∀ b J q, linL tv T I p H = (b, J, q) → Q (.inl (some (.int (if b = true then nI 1 else nI 0)))) (K, rdM J q, L, R, n, s)) : Ok (d + 7) 71 [.ref 40] (K, rdM (I) (p), L, R, n, s) Q := by
  obtain ⟨-, -, hn⟩ := id hT
  obtain ⟨hL, hT4, htv, htl⟩ := id hR
  have hq := (af_ge (tv := tv) hp).2
  refine Ok.enter (F := F_71) (ls := [.ref 40, lDead, lDead]) rfl rfl ?_
  refine wp_aload0 (pc' := 1) rfl rfl ?_
  refine wp_getRF (pc' := 4) rfl rfl (by first | exact TK.k1 hT rfl | exact TK.kk hT rfl | exact TK.r hT rfl | assumption) (by first | exact TK.k1 hT rfl | exact TK.kk hT rfl | exact TK.r hT rfl | assumption) rfl ?_
  refine wp_getI (pc' := 7) rfl rfl (by first | exact TK.k1 hT rfl | exact TK.kk hT rfl | exact TK.r hT rfl | assumption) rfl ?_
  rw [rdM_2]
  refine wp_istore1 (pc' := 8) rfl (by first | rfl | assumption) rfl ?_
  refine wp_aload0 (pc' := 9) rfl rfl ?_
  refine wp_getRF (pc' := 12) rfl rfl (by first | exact TK.k1 hT rfl | exact TK.kk hT rfl | exact TK.r hT rfl | assumption) (by first | exact TK.k1 hT rfl | exact TK.kk hT rfl | exact TK.r hT rfl | assumption) rfl ?_
  refine wp_pool (v := .ref (lmB + 0)) (pc' := 14) rfl rfl rfl rfl rfl ?_
  refine wp_callV2 (pc' := 17) rfl rfl rfl rfl rfl (by first | exact TK.k1 hT rfl | exact TK.kk hT rfl | exact TK.r hT rfl | assumption) rfl rfl ?_
  refine c_pick (w := 0) bogW hT hR hS (by decide) (by decide) (by decide) hp (fun h => ?_) (fun k h => ?_)
  · rw [h] at hk; cases hk
  obtain rfl : k = 8 := by rw [h] at hk; cases hk; rfl
  refine Cont.v ?_
  refine wp_istore2 (pc' := 18) rfl (by first | rfl | assumption) rfl ?_
  refine wp_iload2 (pc' := 19) rfl rfl ?_
  refine wp_sw (tg := 101) rfl rfl ?_
  refine wp_aload0 (pc' := 102) rfl rfl ?_
  refine wp_iload2 (pc' := 103) rfl rfl ?_
  refine wp_callV2 (pc' := 106) rfl rfl rfl rfl rfl (by first | exact TK.k1 hT rfl | exact TK.kk hT rfl | exact TK.r hT rfl | assumption) rfl rfl ?_
  refine c_sky8 hT hR hq ?_
  refine Cont.v ?_
  refine wp_iret rfl rfl (by first | rfl | exact nar_if) ?_
  exact kk true _ _ (by unfold linL; rw [hk]; rfl)
theorem c_line9 {d : Nat} {K : Nat → Nat × Nat} {I : Nat → Nat → Int32} {L : Nat → Nat → Int64} {R : Nat → Nat → Option Nat} {n s : Nat} {Q : Lo → Lm → Prop} {T p : Nat} {tv : Nat → Nat} {H : Nat} (hT : TK K R n) (hR : RdI I T tv) (hS : SS K I R) (hp : p ≤ T) (hH : I 13 10 = nI H) (hH6 : H ≤ 6) (hk : wd tv T p bogW = some 9) (kk : ∀ b J q, linL tv T I p H = (b, J, q) → Q (.inl (some (.int (if b = true then nI 1 else nI 0)))) (K, rdM J q, L, R, n, s)) : Ok (d + 7) 71 [.ref 40] (K, rdM (I) (p), L, R, n, s) Q := by
  obtain ⟨-, -, hn⟩ := id hT
  obtain ⟨hL, hT4, htv, htl⟩ := id hR
  have hq := (af_ge (tv := tv) hp).2
  refine Ok.enter (F := F_71) (ls := [.ref 40, lDead, lDead]) rfl rfl ?_
  refine wp_aload0 (pc' := 1) rfl rfl ?_
  refine wp_getRF (pc' := 4) rfl rfl (by first | exact TK.k1 hT rfl | exact TK.kk hT rfl | exact TK.r hT rfl | assumption) (by first | exact TK.k1 hT rfl | exact TK.kk hT rfl | exact TK.r hT rfl | assumption) rfl ?_
  refine wp_getI (pc' := 7) rfl rfl (by first | exact TK.k1 hT rfl | exact TK.kk hT rfl | exact TK.r hT rfl | assumption) rfl ?_
  rw [rdM_2]
  refine wp_istore1 (pc' := 8) rfl (by first | rfl | assumption) rfl ?_
  refine wp_aload0 (pc' := 9) rfl rfl ?_
  refine wp_getRF (pc' := 12) rfl rfl (by first | exact TK.k1 hT rfl | exact TK.kk hT rfl | exact TK.r hT rfl | assumption) (by first | exact TK.k1 hT rfl | exact TK.kk hT rfl | exact TK.r hT rfl | assumption) rfl ?_
  refine wp_pool (v := .ref (lmB + 0)) (pc' := 14) rfl rfl rfl rfl rfl ?_
  refine wp_callV2 (pc' := 17) rfl rfl rfl rfl rfl (by first | exact TK.k1 hT rfl | exact TK.kk hT rfl | exact TK.r hT rfl | assumption) rfl rfl ?_
  refine c_pick (w := 0) bogW hT hR hS (by decide) (by decide) (by decide) hp (fun h => ?_) (fun k h => ?_)
  · rw [h] at hk; cases hk
  obtain rfl : k = 9 := by rw [h] at hk; cases hk; rfl
  refine Cont.v ?_
  refine wp_istore2 (pc' := 18) rfl (by first | rfl | assumption) rfl ?_
  refine wp_iload2 (pc' := 19) rfl rfl ?_
  refine wp_sw (tg := 101) rfl rfl ?_
  refine wp_aload0 (pc' := 102) rfl rfl ?_
  refine wp_iload2 (pc' := 103) rfl rfl ?_
  refine wp_callV2 (pc' := 106) rfl rfl rfl rfl rfl (by first | exact TK.k1 hT rfl | exact TK.kk hT rfl | exact TK.r hT rfl | assumption) rfl rfl ?_
  refine c_sky9 hT hR hq (fun b J q e => ?_)
  refine Cont.v ?_
  refine wp_iret rfl rfl (by first | rfl | exact nar_if) ?_
  exact kk b J q (by unfold linL; rw [hk]; exact e)
theorem c_lineN {d : Nat} {K : Nat → Nat × Nat} {I : Nat → Nat → Int32} {L : Nat → Nat → Int64} {R : Nat → Nat → Option Nat} {n s : Nat} {Q : Lo → Lm → Prop} {T p : Nat} {tv : Nat → Nat} {H : Nat} (hT : TK K R n) (hR : RdI I T tv) (hS : SS K I R) (hp : p ≤ T) (hH : I 13 10 = nI H) (hH6 : H ≤ 6) (hk : wd tv T p bogW = none) (kk : ∀ b J q, linL tv T I p H = (b, J, q) → Q (.inl (some (.int (if b = true then nI 1 else nI 0)))) (K, rdM J q, L, R, n, s)) : Ok (d + 7) 71 [.ref 40] (K, rdM (I) (p), L, R, n, s) Q := by
  obtain ⟨-, -, hn⟩ := id hT
  obtain ⟨hL, hT4, htv, htl⟩ := id hR
  have hq := (af_ge (tv := tv) hp).2
  refine Ok.enter (F := F_71) (ls := [.ref 40, lDead, lDead]) rfl rfl ?_
  refine wp_aload0 (pc' := 1) rfl rfl ?_
  refine wp_getRF (pc' := 4) rfl rfl (by first | exact TK.k1 hT rfl | exact TK.kk hT rfl | exact TK.r hT rfl | assumption) (by first | exact TK.k1 hT rfl | exact TK.kk hT rfl | exact TK.r hT rfl | assumption) rfl ?_
  refine wp_getI (pc' := 7) rfl rfl (by first | exact TK.k1 hT rfl | exact TK.kk hT rfl | exact TK.r hT rfl | assumption) rfl ?_
  rw [rdM_2]
  refine wp_istore1 (pc' := 8) rfl (by first | rfl | assumption) rfl ?_
  refine wp_aload0 (pc' := 9) rfl rfl ?_
  refine wp_getRF (pc' := 12) rfl rfl (by first | exact TK.k1 hT rfl | exact TK.kk hT rfl | exact TK.r hT rfl | assumption) (by first | exact TK.k1 hT rfl | exact TK.kk hT rfl | exact TK.r hT rfl | assumption) rfl ?_
  refine wp_pool (v := .ref (lmB + 0)) (pc' := 14) rfl rfl rfl rfl rfl ?_
  refine wp_callV2 (pc' := 17) rfl rfl rfl rfl rfl (by first | exact TK.k1 hT rfl | exact TK.kk hT rfl | exact TK.r hT rfl | assumption) rfl rfl ?_
  refine c_pick (w := 0) bogW hT hR hS (by decide) (by decide) (by decide) hp (fun h => ?_) (fun k h => absurd (hk.symm.trans h) (by simp))
  refine Cont.v ?_
  refine wp_istore2 (pc' := 18) rfl (by first | rfl | assumption) rfl ?_
  refine wp_iload2 (pc' := 19) rfl rfl ?_
  refine wp_sw (tg := 101) rfl rfl ?_
  refine wp_aload0 (pc' := 102) rfl rfl ?_
  refine wp_iload2 (pc' := 103) rfl rfl ?_
  refine wp_callV2 (pc' := 106) rfl rfl rfl rfl rfl (by first | exact TK.k1 hT rfl | exact TK.kk hT rfl | exact TK.r hT rfl | assumption) rfl rfl ?_
  refine c_skyN hT hR hp ?_
  refine Cont.v ?_
  refine wp_iret rfl rfl (by first | rfl | exact nar_if) ?_
  exact kk false I p (by unfold linL; rw [hk])
theorem c_line {d : Nat} {K : Nat → Nat × Nat} {I : Mem} {L : Nat → Nat → Int64} {R : Nat → Nat → Option Nat} {n s : Nat} {Q : Lo → Lm → Prop} {T p : Nat} {tv : Nat → Nat} {H : Nat} (hT : TK K R n) (hR : RdI I T tv) (hS : SS K I R) (hp : p ≤ T) (hH : I 13 10 = nI H) (hH6 : H ≤ 6) (kk : ∀ b J q, linL tv T I p H = (b, J, q) → Q (.inl (some (.int (if b = true then nI 1 else nI 0)))) (K, rdM J q, L, R, n, s)) : Ok (d + 7) 71 [.ref 40] (K, rdM I p, L, R, n, s) Q := by
  cases hk : wd tv T p bogW with
  | none => exact c_lineN hT hR hS hp hH hH6 hk kk
  | some k =>
    have hl : k < 10 := by have := pickW_lt _ _ _ hk; exact this.2
    match k, hl, hk with
    | 0, _, hk => exact c_line0 hT hR hS hp hH hH6 hk kk
    | 1, _, hk => exact c_line1 hT hR hS hp hH hH6 hk kk
    | 2, _, hk => exact c_line2 hT hR hS hp hH hH6 hk kk
    | 3, _, hk => exact c_line3 hT hR hS hp hH hH6 hk kk
    | 4, _, hk => exact c_line4 hT hR hS hp hH hH6 hk kk
    | 5, _, hk => exact c_line5 hT hR hS hp hH hH6 hk kk
    | 6, _, hk => exact c_line6 hT hR hS hp hH hH6 hk kk
    | 7, _, hk => exact c_line7 hT hR hS hp hH hH6 hk kk
    | 8, _, hk => exact c_line8 hT hR hS hp hH hH6 hk kk
    | 9, _, hk => exact c_line9 hT hR hS hp hH hH6 hk kk
