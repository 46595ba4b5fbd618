/-! THE READER -/
def rdM (I : Mem) (p : Nat) : Mem := up2 I 39 2 (nI p)
theorem rdM_2 {I : Mem} {p : Nat} : rdM I p 39 2 = nI p := up2_hit
theorem rdM_1 {I : Mem} {p : Nat} : rdM I p 39 1 = I 39 1 := by unfold rdM; rw [up2_same, if_neg (by decide)]
theorem rdM_o {I : Mem} {p a : Nat} (h : a ≠ 39) : rdM I p a = I a := up2_row h
theorem up2_up2 {α : Type} {f : Nat → Nat → α} {a k : Nat} {u v : α} : up2 (up2 f a k u) a k v = up2 f a k v := by
  funext i j; unfold up2
  by_cases h : i = a ∧ j = k
  · rw [if_pos h, if_pos h]
  · rw [if_neg h, if_neg h, if_neg h]
theorem rdM_rdM {I : Mem} {p q : Nat} : up2 (rdM I p) 39 2 (nI q) = rdM I q := up2_up2
def RdI (I : Mem) (T : Nat) (tv : Nat → Nat) : Prop := I 39 1 = nI T ∧ T ≤ 400 ∧ (∀ j, j < 400 → I 38 j = nI (tv j)) ∧ (∀ j, j < 400 → tv j < 256)
def skF (tv : Nat → Nat) : Nat → Nat → Nat
  | 0, p => p
  | r + 1, p => if tv p = 32 then skF tv r (p + 1) else p
def skp (tv : Nat → Nat) (T p : Nat) : Nat := skF tv (T - p) p
theorem skF_ge (tv : Nat → Nat) : ∀ r p, p ≤ skF tv r p ∧ skF tv r p ≤ p + r
  | 0, p => ⟨Nat.le_refl _, Nat.le_refl _⟩
  | r + 1, p => by
    unfold skF
    split
    · have := skF_ge tv r (p + 1); omega
    · omega
theorem skp_ge {tv : Nat → Nat} {T p : Nat} (h : p ≤ T) : p ≤ skp tv T p ∧ skp tv T p ≤ T := by
  have := skF_ge tv (T - p) p
  unfold skp; omega
theorem skp_s {tv : Nat → Nat} {T p : Nat} (h : p < T) (e : tv p = 32) : skp tv T p = skp tv T (p + 1) := by
  unfold skp
  rw [show T - p = (T - (p + 1)) + 1 by omega, skF, if_pos e]
theorem skp_n {tv : Nat → Nat} {T p : Nat} (h : p < T) (e : ¬ tv p = 32) : skp tv T p = p := by
  unfold skp
  rw [show T - p = (T - (p + 1)) + 1 by omega, skF, if_neg e]
theorem skp_T {tv : Nat → Nat} {T p : Nat} (h : T ≤ p) : skp tv T p = p := by
  unfold skp; rw [show T - p = 0 by omega]; rfl
/-- the letters from p on, how many -/
def leF (tv : Nat → Nat) : Nat → Nat → Nat
  | 0, _ => 0
  | r + 1, p => if 97 ≤ tv p ∧ tv p ≤ 122 then leF tv r (p + 1) + 1 else 0
def letN (tv : Nat → Nat) (T p : Nat) : Nat := leF tv (T - p) p
theorem leF_le (tv : Nat → Nat) : ∀ r p, leF tv r p ≤ r
  | 0, _ => Nat.le_refl _
  | r + 1, p => by
    unfold leF
    split
    · have := leF_le tv r (p + 1); omega
    · omega
theorem letN_le {tv : Nat → Nat} {T p : Nat} : letN tv T p ≤ T - p := leF_le tv _ _
theorem letN_s {tv : Nat → Nat} {T p : Nat} (h : p < T) (e : 97 ≤ tv p ∧ tv p ≤ 122) : letN tv T p = letN tv T (p + 1) + 1 := by
  unfold letN
  rw [show T - p = (T - (p + 1)) + 1 by omega, leF, if_pos e]
theorem letN_n {tv : Nat → Nat} {T p : Nat} (h : p < T) (e : ¬ (97 ≤ tv p ∧ tv p ≤ 122)) : letN tv T p = 0 := by
  unfold letN
  rw [show T - p = (T - (p + 1)) + 1 by omega, leF, if_neg e]
theorem letN_T {tv : Nat → Nat} {T p : Nat} (h : T ≤ p) : letN tv T p = 0 := by
  unfold letN; rw [show T - p = 0 by omega]; rfl
/-- digits from p on, four at most: where they end, their number -/
def dgF (tv : Nat → Nat) : Nat → Nat → Nat → Nat × Nat
  | 0, p, v => (p, v)
  | r + 1, p, v => if 48 ≤ tv p ∧ tv p ≤ 57 then dgF tv r (p + 1) (10 * v + (tv p - 48)) else (p, v)
def dgN (tv : Nat → Nat) (T p : Nat) : Nat × Nat := dgF tv (min 4 (T - p)) p 0
def numR (tv : Nat → Nat) (T p : Nat) (lo : Int32) (hi : Int32) : Option (Nat × Nat) :=
  if (dgN tv T p).1 - p < 1 ∨ 3 < (dgN tv T p).1 - p ∨ nI (dgN tv T p).2 < lo ∨ hi < nI (dgN tv T p).2 then none else some ((dgN tv T p).2, skp tv T (dgN tv T p).1)
def numV (q : Option (Nat × Nat)) : Int32 := match q with
  | none => -1
  | some x => nI x.1
def numP (p : Nat) (q : Option (Nat × Nat)) : Nat := match q with
  | none => p
  | some x => x.2
def digP (tv : Nat → Nat) (T p : Nat) : Prop := p < T ∧ 48 ≤ tv p ∧ tv p ≤ 57
theorem dgF_lt (tv : Nat → Nat) : ∀ r p v, p ≤ (dgF tv r p v).1 ∧ (dgF tv r p v).1 ≤ p + r ∧ (dgF tv r p v).2 + 1 ≤ (v + 1) * 10 ^ r
  | 0, p, v => by unfold dgF; simp
  | r + 1, p, v => by
    unfold dgF
    split
    · have := dgF_lt tv r (p + 1) (10 * v + (tv p - 48))
      refine ⟨by omega, by omega, Nat.le_trans this.2.2 ?_⟩
      rw [Nat.pow_succ, Nat.mul_comm (10 ^ r) 10, ← Nat.mul_assoc]
      exact Nat.mul_le_mul_right _ (by omega)
    · refine ⟨Nat.le_refl _, by omega, ?_⟩
      exact Nat.le_mul_of_pos_right _ (Nat.pos_of_ne_zero (by simp))
theorem dgN_lt {tv : Nat → Nat} {T p : Nat} (h : p ≤ T) : p ≤ (dgN tv T p).1 ∧ (dgN tv T p).1 ≤ T ∧ (dgN tv T p).2 < 10000 := by
  obtain ⟨h1, h2, h3⟩ := dgF_lt tv (min 4 (T - p)) p 0
  unfold dgN
  refine ⟨h1, by omega, ?_⟩
  have : 10 ^ min 4 (T - p) ≤ 10 ^ 4 := Nat.pow_le_pow_right (by decide) (Nat.min_le_left _ _)
  omega
theorem numR_le {tv : Nat → Nat} {T p : Nat} {lw up : Int32} (h : p ≤ T) : p ≤ numP p (numR tv T p lw up) ∧ numP p (numR tv T p lw up) ≤ T := by
  unfold numR
  obtain ⟨h1, h2, -⟩ := dgN_lt (tv := tv) h
  split
  · exact ⟨Nat.le_refl _, h⟩
  · have := skp_ge (tv := tv) h2
    exact ⟨by show p ≤ skp tv T _; omega, this.2⟩
theorem dig_of {T p v : Nat} (h8 : nI p < nI T) (h22 : ¬ nI v < nI 48) (h36 : ¬ nI 57 < nI v) (hp : p ≤ T) (hT : T ≤ 400) (hv : v < 256) : p < T ∧ 48 ≤ v ∧ v ≤ 57 :=
  ⟨(nI_ltI (by omega) (by omega)).mp h8, Nat.le_of_not_lt (fun e => h22 (nI_lt e (by decide))), Nat.le_of_not_lt (fun e => h36 (nI_lt e (by omega)))⟩
theorem lt_nI {a b : Nat} (h : nI a < nI b) (ha : a < 2 ^ 31) (hb : b < 2 ^ 31) : a < b := (nI_ltI ha hb).mp h
theorem ge_nI {a b : Nat} (h : ¬ nI a < nI b) (hb : b < 2 ^ 31) : b ≤ a := Nat.le_of_not_lt (fun e => h (nI_lt e hb))
theorem eq_nI {a b : Nat} (h : nI a = nI b) (ha : a < 2 ^ 31) (hb : b < 2 ^ 31) : a = b := (nI_eq ha hb).mp h
theorem dg_end {tv : Nat → Nat} {k i v : Nat} (h : k = 0 ∨ ¬ (48 ≤ tv i ∧ tv i ≤ 57)) : dgF tv k i v = (i, v) := by
  match k, h with
  | 0, _ => rfl
  | k + 1, h => rw [dgF, if_neg (h.resolve_left (by omega))]
theorem dg_pow {i p v d : Nat} (hp : p ≤ i) (hv : v < 10 ^ (i - p)) (hd : d ≤ 9) : 10 * v + d < 10 ^ (i + 1 - p) := by
  rw [show i + 1 - p = (i - p) + 1 by omega, Nat.pow_succ, Nat.mul_comm]
  generalize 10 ^ (i - p) = z at hv ⊢
  omega
theorem dg_4 {k v : Nat} (hk : k ≤ 4) (hv : v < 10 ^ k) : v < 10000 := Nat.lt_of_lt_of_le hv (Nat.pow_le_pow_right (by decide) hk)
/-- the texts in the code -/
def SS (K : Nat → Nat × Nat) (I : Mem) (R : Nat → Nat → Option Nat) : Prop := ∀ i, i < 57 → K (lmB + 2 * i) = (13, 0) ∧ K (lmB + (2 * i + 1)) = (52, (sB i).length) ∧ R (lmB + 2 * i) 0 = some (lmB + (2 * i + 1)) ∧ (∀ j, I (lmB + 2 * i) j = 0) ∧ ∀ j, I (lmB + (2 * i + 1)) j = Int32.ofNat ((sB i).getD j 0)
theorem sB_small : ∀ i : Fin 57, (sB i.1).length < 100 ∧ ∀ x ∈ sB i.1, x < 128 := by decide +kernel
theorem sB_lt {i : Nat} (h : i < 57) (j : Nat) : (sB i).getD j 0 < 128 := by
  by_cases hj : j < (sB i).length
  · rw [List.getD_eq_getElem?_getD, List.getElem?_eq_getElem hj]
    exact (sB_small ⟨i, h⟩).2 _ (List.getElem_mem hj)
  · rw [List.getD_eq_getElem?_getD, List.getElem?_eq_none (by omega)]; decide
theorem and255 : ∀ a : Fin 256, (((nI a.1 &&& nI 255).toUInt32 % 65536).toInt32) = nI a.1 := by decide +kernel
theorem shr0 {k : Nat} (h : k < 2 ^ 31) : jshr (nI k) 0 = nI k := by
  unfold jshr
  rw [show (0 : Int32) &&& 31 = 0 by decide]
  exact Int32.shiftRight_zero
theorem char_nar {x : Int32} {a : Nat} (e : x = nI a) (h : a < 256) : narrow .char (.int x) = .int x := by
  subst e
  have q : ∀ b : Fin 256, narrow .char (.int (nI b.1)) = .int (nI b.1) := by decide +kernel
  exact q ⟨a, h⟩

theorem c_goOn {d : Nat} {K : Nat → Nat × Nat} {I : Nat → Nat → Int32} {L : Nat → Nat → Int64} {R : Nat → Nat → Option Nat} {n s : Nat} {Q : Lo → Lm → Prop} {T p : Nat} {tv : Nat → Nat} {q : Nat} (hT : TK K R n) (hR : RdI I T tv) (hq : q ≤ T) (kk : Q (.inl none) (K, rdM I (skp tv T q), L, R, n, s)) : Ok (d + 1) 68 [.ref 39, .int (nI q)] (K, rdM I (p), L, R, n, s) Q := by
  obtain ⟨-, -, hn⟩ := id hT
  obtain ⟨hL, hT4, htv, htl⟩ := id hR
  refine Ok.enter (F := F_68) (ls := [.ref 39, .int (nI q), lDead]) rfl rfl ?_
  refine wp_iload1 (pc' := 1) rfl rfl ?_
  refine wp_istore2 (pc' := 2) rfl (by first | rfl | assumption) rfl ?_
  have lp2 : ∀ r (i : Nat), i + r = T → skp tv T i = skp tv T q → WP d F_68 2 [.ref 39, .int (nI q), .int (nI i)] [] (K, rdM I (p), L, R, n, s) Q := by
    intro r; induction r with
    | zero =>
      intro i hi hv0
      have hi2 : i = T := by omega
      skip
      refine wp_iload2 (pc' := 3) rfl rfl ?_
      refine wp_aload0 (pc' := 4) rfl rfl ?_
      refine wp_getI (pc' := 7) rfl rfl (by first | exact TK.k1 hT rfl | exact TK.kk hT rfl | exact TK.r hT rfl | assumption) rfl ?_
      rw [rdM_1, hL]
      refine wp_icmpgeT rfl (nI_nlt (by omega) (by omega)) ?_
      refine wp_aload0 (pc' := 28) rfl rfl ?_
      refine wp_iload2 (pc' := 29) rfl rfl ?_
      refine wp_putI (pc' := 32) rfl rfl (by first | exact TK.k1 hT rfl | exact TK.kk hT rfl | exact TK.r hT rfl | assumption) (by omega) rfl ?_
      refine wp_vret rfl rfl ?_
      rw [rdM_rdM]
      exact Qu kk (by rw [show i = skp tv T q from by first | (rw [← hv0, skp_T (by omega)]; done) | (rw [← hv0, skp_n (by omega) (fun e => h18 (by rw [e]))])])
    | succ r ih =>
      intro i hi hv0
      have hlt : i < T := by omega
      refine wp_iload2 (pc' := 3) rfl rfl ?_
      refine wp_aload0 (pc' := 4) rfl rfl ?_
      refine wp_getI (pc' := 7) rfl rfl (by first | exact TK.k1 hT rfl | exact TK.kk hT rfl | exact TK.r hT rfl | assumption) rfl ?_
      rw [rdM_1, hL]
      refine wp_icmpgeF (pc' := 10) rfl (nI_lt (by omega) (by omega)) rfl ?_
      refine wp_aload0 (pc' := 11) rfl rfl ?_
      refine wp_getRF (pc' := 14) rfl rfl (by first | exact TK.k1 hT rfl | exact TK.kk hT rfl | exact TK.r hT rfl | assumption) (by first | exact TK.k1 hT rfl | exact TK.kk hT rfl | exact TK.r hT rfl | assumption) rfl ?_
      refine wp_iload2 (pc' := 15) rfl rfl ?_
      refine wp_iald _ (pc' := 16) rfl (by first | exact TK.k1 hT rfl | exact TK.kk hT rfl | exact TK.r hT rfl | assumption) (by with_reducible rfl) (by omega) (by first | decide | assumption | omega) rfl ?_
      rw [rdM_o (by decide), htv _ (by omega)]
      refine wp_bipush (v := nI 32) (pc' := 18) rfl rfl rfl ?_
      refine wp_icmpne (pc' := 21) rfl rfl ?_ ?_
      · intro h18
        refine wp_aload0 (pc' := 28) rfl rfl ?_
        refine wp_iload2 (pc' := 29) rfl rfl ?_
        refine wp_putI (pc' := 32) rfl rfl (by first | exact TK.k1 hT rfl | exact TK.kk hT rfl | exact TK.r hT rfl | assumption) (by omega) rfl ?_
        refine wp_vret rfl rfl ?_
        rw [rdM_rdM]
        exact Qu kk (by rw [show i = skp tv T q from by first | (rw [← hv0, skp_T (by omega)]; done) | (rw [← hv0, skp_n (by omega) (fun e => h18 (by rw [e]))])])
      · intro h18
        first | refine wp_iinc2 (w := nI 1) (pc' := 24) rfl rfl rfl (by with_reducible exact nI_add _ _) rfl ?_ | refine wp_iinc2 (w := nI 1) (pc' := 24) rfl rfl rfl rfl rfl ?_
        refine wp_goto rfl ?_
        exact WP.cg (ih (i + 1) (by omega) ((skp_s (by omega) ((nI_eq (by have := htl i (by omega); omega) (by decide)).mp h18)).symm.trans hv0)) (lC1 (lI1 (by rfl) (lI1 (by rfl) rfl))) rfl (by rfl)
  exact WP.cg (lp2 (T - (q)) (q) (by omega) rfl) (lC1 (lI1 (by rfl) (lI1 (by rfl) rfl))) rfl (by rfl)
theorem c_isDone {d : Nat} {K : Nat → Nat × Nat} {I : Nat → Nat → Int32} {L : Nat → Nat → Int64} {R : Nat → Nat → Option Nat} {n s : Nat} {Q : Lo → Lm → Prop} {T p : Nat} {tv : Nat → Nat} (hT : TK K R n) (hR : RdI I T tv) (hp : p ≤ T) (kk : Q (.inl (some (.int (if T ≤ p then nI 1 else nI 0)))) (K, rdM I (p), L, R, n, s)) : Ok (d + 1) 70 [.ref 39] (K, rdM I (p), L, R, n, s) Q := by
  obtain ⟨-, -, hn⟩ := id hT
  obtain ⟨hL, hT4, htv, htl⟩ := id hR
  refine Ok.enter (F := F_70) (ls := [.ref 39]) rfl rfl ?_
  refine wp_aload0 (pc' := 1) rfl rfl ?_
  refine wp_getI (pc' := 4) rfl rfl (by first | exact TK.k1 hT rfl | exact TK.kk hT rfl | exact TK.r hT rfl | assumption) rfl ?_
  rw [rdM_2]
  refine wp_aload0 (pc' := 5) rfl rfl ?_
  refine wp_getI (pc' := 8) rfl rfl (by first | exact TK.k1 hT rfl | exact TK.kk hT rfl | exact TK.r hT rfl | assumption) rfl ?_
  rw [rdM_1, hL]
  refine wp_icmplt (pc' := 11) rfl rfl ?_ ?_
  · intro h8
    refine wp_iconst (v := nI 0) (pc' := 16) rfl rfl rfl ?_
    refine wp_iret rfl rfl (by first | rfl | exact nar_if) ?_
    exact Qv kk (by first | rw [if_pos (Nat.le_of_not_lt (fun e => h8 (nI_lt e (by omega))))] | rw [if_neg (Nat.not_le_of_gt ((nI_ltI (by omega) (by omega)).mp h8))]) rfl
  · intro h8
    refine wp_iconst (v := nI 1) (pc' := 12) rfl rfl rfl ?_
    refine wp_goto rfl ?_
    refine wp_iret rfl rfl (by first | rfl | exact nar_if) ?_
    exact Qv kk (by first | rw [if_pos (Nat.le_of_not_lt (fun e => h8 (nI_lt e (by omega))))] | rw [if_neg (Nat.not_le_of_gt ((nI_ltI (by omega) (by omega)).mp h8))]) rfl
theorem c_isAtDigit {d : Nat} {K : Nat → Nat × Nat} {I : Nat → Nat → Int32} {L : Nat → Nat → Int64} {R : Nat → Nat → Option Nat} {n s : Nat} {Q : Lo → Lm → Prop} {T p : Nat} {tv : Nat → Nat} (hT : TK K R n) (hR : RdI I T tv) (hp : p ≤ T) (kk : Q (.inl (some (.int (if p < T ∧ 48 ≤ tv p ∧ tv p ≤ 57 then nI 1 else nI 0)))) (K, rdM I (p), L, R, n, s)) : Ok (d + 1) 86 [.ref 39] (K, rdM I (p), L, R, n, s) Q := by
  obtain ⟨-, -, hn⟩ := id hT
  obtain ⟨hL, hT4, htv, htl⟩ := id hR
  refine Ok.enter (F := F_86) (ls := [.ref 39]) rfl rfl ?_
  refine wp_aload0 (pc' := 1) rfl rfl ?_
  refine wp_getI (pc' := 4) rfl rfl (by first | exact TK.k1 hT rfl | exact TK.kk hT rfl | exact TK.r hT rfl | assumption) rfl ?_
  rw [rdM_2]
  refine wp_aload0 (pc' := 5) rfl rfl ?_
  refine wp_getI (pc' := 8) rfl rfl (by first | exact TK.k1 hT rfl | exact TK.kk hT rfl | exact TK.r hT rfl | assumption) rfl ?_
  rw [rdM_1, hL]
  refine wp_icmpge (pc' := 11) rfl rfl ?_ ?_
  · intro h8
    refine wp_iconst (v := nI 0) (pc' := 44) rfl rfl rfl ?_
    refine wp_iret rfl rfl (by first | rfl | exact nar_if) ?_
    exact Qv kk (by first | rw [if_pos (show p < T ∧ 48 ≤ tv p ∧ tv p ≤ 57 from dig_of h8 h22 h36 hp hT4 htp)] | rw [if_neg (fun e => absurd (nI_lt e.1 (by omega)) h8)] | rw [if_neg (fun e => by have := lt_nI h22 (by omega) (by decide); omega)] | rw [if_neg (fun e => by have := lt_nI h36 (by decide) (by omega); omega)]) rfl
  · intro h8
    have hpT : p < T := lt_nI h8 (by omega) (by omega)
    have htp := htl p (by omega)
    refine wp_aload0 (pc' := 12) rfl rfl ?_
    refine wp_getRF (pc' := 15) rfl rfl (by first | exact TK.k1 hT rfl | exact TK.kk hT rfl | exact TK.r hT rfl | assumption) (by first | exact TK.k1 hT rfl | exact TK.kk hT rfl | exact TK.r hT rfl | assumption) rfl ?_
    refine wp_aload0 (pc' := 16) rfl rfl ?_
    refine wp_getI (pc' := 19) rfl rfl (by first | exact TK.k1 hT rfl | exact TK.kk hT rfl | exact TK.r hT rfl | assumption) rfl ?_
    rw [rdM_2]
    refine wp_iald _ (pc' := 20) rfl (by first | exact TK.k1 hT rfl | exact TK.kk hT rfl | exact TK.r hT rfl | assumption) (by with_reducible rfl) (by omega) (by first | decide | assumption | omega) rfl ?_
    rw [rdM_o (by decide), htv _ (by omega)]
    refine wp_bipush (v := nI 48) (pc' := 22) rfl rfl rfl ?_
    refine wp_icmplt (pc' := 25) rfl rfl ?_ ?_
    · intro h22
      refine wp_iconst (v := nI 0) (pc' := 44) rfl rfl rfl ?_
      refine wp_iret rfl rfl (by first | rfl | exact nar_if) ?_
      exact Qv kk (by first | rw [if_pos (show p < T ∧ 48 ≤ tv p ∧ tv p ≤ 57 from dig_of h8 h22 h36 hp hT4 htp)] | rw [if_neg (fun e => absurd (nI_lt e.1 (by omega)) h8)] | rw [if_neg (fun e => by have := lt_nI h22 (by omega) (by decide); omega)] | rw [if_neg (fun e => by have := lt_nI h36 (by decide) (by omega); omega)]) rfl
    · intro h22
      refine wp_aload0 (pc' := 26) rfl rfl ?_
      refine wp_getRF (pc' := 29) rfl rfl (by first | exact TK.k1 hT rfl | exact TK.kk hT rfl | exact TK.r hT rfl | assumption) (by first | exact TK.k1 hT rfl | exact TK.kk hT rfl | exact TK.r hT rfl | assumption) rfl ?_
      refine wp_aload0 (pc' := 30) rfl rfl ?_
      refine wp_getI (pc' := 33) rfl rfl (by first | exact TK.k1 hT rfl | exact TK.kk hT rfl | exact TK.r hT rfl | assumption) rfl ?_
      rw [rdM_2]
      refine wp_iald _ (pc' := 34) rfl (by first | exact TK.k1 hT rfl | exact TK.kk hT rfl | exact TK.r hT rfl | assumption) (by with_reducible rfl) (by omega) (by first | decide | assumption | omega) rfl ?_
      rw [rdM_o (by decide), htv _ (by omega)]
      refine wp_bipush (v := nI 57) (pc' := 36) rfl rfl rfl ?_
      refine wp_icmpgt (pc' := 39) rfl rfl ?_ ?_
      · intro h36
        refine wp_iconst (v := nI 0) (pc' := 44) rfl rfl rfl ?_
        refine wp_iret rfl rfl (by first | rfl | exact nar_if) ?_
        exact Qv kk (by first | rw [if_pos (show p < T ∧ 48 ≤ tv p ∧ tv p ≤ 57 from dig_of h8 h22 h36 hp hT4 htp)] | rw [if_neg (fun e => absurd (nI_lt e.1 (by omega)) h8)] | rw [if_neg (fun e => by have := lt_nI h22 (by omega) (by decide); omega)] | rw [if_neg (fun e => by have := lt_nI h36 (by decide) (by omega); omega)]) rfl
      · intro h36
        refine wp_iconst (v := nI 1) (pc' := 40) rfl rfl rfl ?_
        refine wp_goto rfl ?_
        refine wp_iret rfl rfl (by first | rfl | exact nar_if) ?_
        exact Qv kk (by first | rw [if_pos (show p < T ∧ 48 ≤ tv p ∧ tv p ≤ 57 from dig_of h8 h22 h36 hp hT4 htp)] | rw [if_neg (fun e => absurd (nI_lt e.1 (by omega)) h8)] | rw [if_neg (fun e => by have := lt_nI h22 (by omega) (by decide); omega)] | rw [if_neg (fun e => by have := lt_nI h36 (by decide) (by omega); omega)]) rfl
theorem c_takeSign {d : Nat} {K : Nat → Nat × Nat} {I : Nat → Nat → Int32} {L : Nat → Nat → Int64} {R : Nat → Nat → Option Nat} {n s : Nat} {Q : Lo → Lm → Prop} {T p : Nat} {tv : Nat → Nat} {c : Nat} (hT : TK K R n) (hR : RdI I T tv) (hp : p ≤ T) (hc : c < 256) (kk0 : ¬ (p < T ∧ tv p = c) → Q (.inl (some (.int (nI 0)))) (K, rdM I (p), L, R, n, s)) (kk : p < T ∧ tv p = c → Q (.inl (some (.int (nI 1)))) (K, rdM I (skp tv T (p + 1)), L, R, n, s)) : Ok (d + 2) 94 [.ref 39, .int (nI c)] (K, rdM I (p), L, R, n, s) Q := by
  obtain ⟨-, -, hn⟩ := id hT
  obtain ⟨hL, hT4, htv, htl⟩ := id hR
  refine Ok.enter (F := F_94) (ls := [.ref 39, .int (nI c)]) rfl rfl ?_
  refine wp_aload0 (pc' := 1) rfl rfl ?_
  refine wp_getI (pc' := 4) rfl rfl (by first | exact TK.k1 hT rfl | exact TK.kk hT rfl | exact TK.r hT rfl | assumption) rfl ?_
  rw [rdM_2]
  refine wp_aload0 (pc' := 5) rfl rfl ?_
  refine wp_getI (pc' := 8) rfl rfl (by first | exact TK.k1 hT rfl | exact TK.kk hT rfl | exact TK.r hT rfl | assumption) rfl ?_
  rw [rdM_1, hL]
  refine wp_icmpge (pc' := 11) rfl rfl ?_ ?_
  · intro h8
    refine wp_iconst (v := nI 0) (pc' := 25) rfl rfl rfl ?_
    refine wp_iret rfl rfl (by first | rfl | exact nar_if) ?_
    first | exact kk0 (fun e => absurd (nI_lt e.1 (by omega)) h8) | exact kk0 (fun e => h21 (by rw [e.2]))
  · intro h8
    have hpT : p < T := lt_nI h8 (by omega) (by omega)
    have htp := htl p (by omega)
    refine wp_aload0 (pc' := 12) rfl rfl ?_
    refine wp_getRF (pc' := 15) rfl rfl (by first | exact TK.k1 hT rfl | exact TK.kk hT rfl | exact TK.r hT rfl | assumption) (by first | exact TK.k1 hT rfl | exact TK.kk hT rfl | exact TK.r hT rfl | assumption) rfl ?_
    refine wp_aload0 (pc' := 16) rfl rfl ?_
    refine wp_getI (pc' := 19) rfl rfl (by first | exact TK.k1 hT rfl | exact TK.kk hT rfl | exact TK.r hT rfl | assumption) rfl ?_
    rw [rdM_2]
    refine wp_iald _ (pc' := 20) rfl (by first | exact TK.k1 hT rfl | exact TK.kk hT rfl | exact TK.r hT rfl | assumption) (by with_reducible rfl) (by omega) (by first | decide | assumption | omega) rfl ?_
    rw [rdM_o (by decide), htv _ (by omega)]
    refine wp_iload1 (pc' := 21) rfl rfl ?_
    refine wp_icmpeq (pc' := 24) rfl rfl ?_ ?_
    · intro h21
      refine wp_aload0 (pc' := 27) rfl rfl ?_
      refine wp_aload0 (pc' := 28) rfl rfl ?_
      refine wp_getI (pc' := 31) rfl rfl (by first | exact TK.k1 hT rfl | exact TK.kk hT rfl | exact TK.r hT rfl | assumption) rfl ?_
      rw [rdM_2]
      refine wp_iconst (v := nI 1) (pc' := 32) rfl rfl rfl ?_
      first | refine wp_iaddN (pc' := 33) rfl (by with_reducible rfl) (by with_reducible rfl) rfl ?_ | refine wp_iadd (pc' := 33) rfl rfl ?_
      refine wp_callV2 (pc' := 36) rfl rfl rfl rfl rfl (by first | exact TK.k1 hT rfl | exact TK.kk hT rfl | exact TK.r hT rfl | assumption) rfl rfl ?_
      refine c_goOn hT hR (by omega) ?_
      refine Cont.u ?_
      refine wp_iconst (v := nI 1) (pc' := 37) rfl rfl rfl ?_
      refine wp_iret rfl rfl (by first | rfl | exact nar_if) ?_
      exact kk ⟨hpT, eq_nI h21 (by omega) (by omega)⟩
    · intro h21
      refine wp_iconst (v := nI 0) (pc' := 25) rfl rfl rfl ?_
      refine wp_iret rfl rfl (by first | rfl | exact nar_if) ?_
      first | exact kk0 (fun e => absurd (nI_lt e.1 (by omega)) h8) | exact kk0 (fun e => h21 (by rw [e.2]))
theorem c_takeNumber {d : Nat} {K : Nat → Nat × Nat} {I : Nat → Nat → Int32} {L : Nat → Nat → Int64} {R : Nat → Nat → Option Nat} {n s : Nat} {Q : Lo → Lm → Prop} {T p : Nat} {tv : Nat → Nat} {lw up : Int32} (hT : TK K R n) (hR : RdI I T tv) (hp : p ≤ T) (kk : Q (.inl (some (.int (numV (numR tv T p lw up))))) (K, rdM I (numP p (numR tv T p lw up)), L, R, n, s)) : Ok (d + 2) 85 [.ref 39, .int lw, .int up] (K, rdM I (p), L, R, n, s) Q := by
  obtain ⟨-, -, hn⟩ := id hT
  obtain ⟨hL, hT4, htv, htl⟩ := id hR
  refine Ok.enter (F := F_85) (ls := [.ref 39, .int lw, .int up, lDead, lDead, lDead]) rfl rfl ?_
  refine wp_iconst (v := nI 0) (pc' := 1) rfl rfl rfl ?_
  refine wp_istore3 (pc' := 2) rfl (by first | rfl | assumption) rfl ?_
  refine wp_aload0 (pc' := 3) rfl rfl ?_
  refine wp_getI (pc' := 6) rfl rfl (by first | exact TK.k1 hT rfl | exact TK.kk hT rfl | exact TK.r hT rfl | assumption) rfl ?_
  rw [rdM_2]
  refine wp_istore4 (pc' := 8) rfl (by first | rfl | assumption) rfl ?_
  have lp8 : ∀ r (i : Nat) (v : Nat) (v5 : Value), i + r = p + 4 → v < 10 ^ (i - p) → p ≤ i → i ≤ T → dgF tv (min 4 (T - p) - (i - p)) i v = dgN tv T p → isL v5 = false → WP (d + 1) F_85 8 [.ref 39, .int lw, .int up, .int (nI v), .int (nI i), v5] [] (K, rdM I (p), L, R, n, s) Q := by
    intro r; induction r with
    | zero =>
      intro i v v5 hi hv0 hv1 hv2 hv3 hv4
      have hv4 := dg_4 (by omega) hv0
      refine wp_iload4 (pc' := 10) rfl rfl ?_
      refine wp_aload0 (pc' := 11) rfl rfl ?_
      refine wp_getI (pc' := 14) rfl rfl (by first | exact TK.k1 hT rfl | exact TK.kk hT rfl | exact TK.r hT rfl | assumption) rfl ?_
      rw [rdM_1, hL]
      refine wp_icmpge (pc' := 17) rfl rfl ?_ ?_
      · intro h14
        have hfin : (i, v) = dgN tv T p := by
          first | exact (dg_end (Or.inl (by have := ge_nI h14 (by omega); omega))).symm.trans hv3 | exact (dg_end (Or.inr (fun e => by have := lt_nI h26 (by omega) (by decide); omega))).symm.trans hv3 | exact (dg_end (Or.inr (fun e => by have := lt_nI h38 (by decide) (by omega); omega))).symm.trans hv3 | exact (dg_end (Or.inl (by omega))).symm.trans hv3
        have hf1 : (dgN tv T p).1 = i := by rw [← hfin]
        have hf2 : (dgN tv T p).2 = v := by rw [← hfin]
        refine wp_iload4 (pc' := 76) rfl rfl ?_
        refine wp_aload0 (pc' := 77) rfl rfl ?_
        refine wp_getI (pc' := 80) rfl rfl (by first | exact TK.k1 hT rfl | exact TK.kk hT rfl | exact TK.r hT rfl | assumption) rfl ?_
        rw [rdM_2]
        first | refine wp_isubN (pc' := 81) rfl (by with_reducible rfl) (by with_reducible rfl) (by omega) rfl ?_ | refine wp_isub (pc' := 81) rfl rfl ?_
        refine wp_istore5 (pc' := 83) rfl (by first | rfl | assumption) rfl ?_
        refine wp_iload5 (pc' := 85) rfl rfl ?_
        refine wp_iconst (v := nI 1) (pc' := 86) rfl rfl rfl ?_
        refine wp_icmplt (pc' := 89) rfl rfl ?_ ?_
        · intro h86
          refine wp_iconst (v := (-1)) (pc' := 106) rfl rfl rfl ?_
          refine wp_iret rfl rfl rfl ?_
          have hz : numR tv T p lw up = none := by
            unfold numR; rw [hf1, hf2]
            first | exact if_pos (Or.inl (lt_nI h86 (by omega) (by decide))) | exact if_pos (Or.inr (Or.inl (lt_nI h92 (by decide) (by omega)))) | exact if_pos (Or.inr (Or.inr (Or.inl h97))) | exact if_pos (Or.inr (Or.inr (Or.inr h102)))
          rw [hz] at kk
          exact kk
        · intro h86
          refine wp_iload5 (pc' := 91) rfl rfl ?_
          refine wp_iconst (v := nI 3) (pc' := 92) rfl rfl rfl ?_
          refine wp_icmpgt (pc' := 95) rfl rfl ?_ ?_
          · intro h92
            refine wp_iconst (v := (-1)) (pc' := 106) rfl rfl rfl ?_
            refine wp_iret rfl rfl rfl ?_
            have hz : numR tv T p lw up = none := by
              unfold numR; rw [hf1, hf2]
              first | exact if_pos (Or.inl (lt_nI h86 (by omega) (by decide))) | exact if_pos (Or.inr (Or.inl (lt_nI h92 (by decide) (by omega)))) | exact if_pos (Or.inr (Or.inr (Or.inl h97))) | exact if_pos (Or.inr (Or.inr (Or.inr h102)))
            rw [hz] at kk
            exact kk
          · intro h92
            refine wp_iload3 (pc' := 96) rfl rfl ?_
            refine wp_iload1 (pc' := 97) rfl rfl ?_
            refine wp_icmplt (pc' := 100) rfl rfl ?_ ?_
            · intro h97
              refine wp_iconst (v := (-1)) (pc' := 106) rfl rfl rfl ?_
              refine wp_iret rfl rfl rfl ?_
              have hz : numR tv T p lw up = none := by
                unfold numR; rw [hf1, hf2]
                first | exact if_pos (Or.inl (lt_nI h86 (by omega) (by decide))) | exact if_pos (Or.inr (Or.inl (lt_nI h92 (by decide) (by omega)))) | exact if_pos (Or.inr (Or.inr (Or.inl h97))) | exact if_pos (Or.inr (Or.inr (Or.inr h102)))
              rw [hz] at kk
              exact kk
            · intro h97
              refine wp_iload3 (pc' := 101) rfl rfl ?_
              refine wp_iload2 (pc' := 102) rfl rfl ?_
              refine wp_icmple (pc' := 105) rfl rfl ?_ ?_
              · intro h102
                refine wp_aload0 (pc' := 108) rfl rfl ?_
                refine wp_iload4 (pc' := 110) rfl rfl ?_
                refine wp_callV2 (pc' := 113) rfl rfl rfl rfl rfl (by first | exact TK.k1 hT rfl | exact TK.kk hT rfl | exact TK.r hT rfl | assumption) rfl rfl ?_
                refine c_goOn hT hR (by omega) ?_
                refine Cont.u ?_
                refine wp_iload3 (pc' := 114) rfl rfl ?_
                refine wp_iret rfl rfl rfl ?_
                have hz : numR tv T p lw up = some (v, skp tv T i) := by
                  unfold numR; rw [hf1, hf2]
                  exact if_neg (fun e => by
                    rcases e with e | e | e | e
                    · exact h86 (nI_lt e (by decide))
                    · exact h92 (nI_lt e (by omega))
                    · exact h97 e
                    · exact h102 e)
                rw [hz] at kk
                exact kk
              · intro h102
                refine wp_iconst (v := (-1)) (pc' := 106) rfl rfl rfl ?_
                refine wp_iret rfl rfl rfl ?_
                have hz : numR tv T p lw up = none := by
                  unfold numR; rw [hf1, hf2]
                  first | exact if_pos (Or.inl (lt_nI h86 (by omega) (by decide))) | exact if_pos (Or.inr (Or.inl (lt_nI h92 (by decide) (by omega)))) | exact if_pos (Or.inr (Or.inr (Or.inl h97))) | exact if_pos (Or.inr (Or.inr (Or.inr h102)))
                rw [hz] at kk
                exact kk
      · intro h14
        have hiT : i < T := lt_nI h14 (by omega) (by omega)
        refine wp_aload0 (pc' := 18) rfl rfl ?_
        refine wp_getRF (pc' := 21) rfl rfl (by first | exact TK.k1 hT rfl | exact TK.kk hT rfl | exact TK.r hT rfl | assumption) (by first | exact TK.k1 hT rfl | exact TK.kk hT rfl | exact TK.r hT rfl | assumption) rfl ?_
        refine wp_iload4 (pc' := 23) rfl rfl ?_
        refine wp_iald _ (pc' := 24) rfl (by first | exact TK.k1 hT rfl | exact TK.kk hT rfl | exact TK.r hT rfl | assumption) (by with_reducible rfl) (by omega) (by first | decide | assumption | omega) rfl ?_
        rw [rdM_o (by decide), htv _ (by omega)]
        have hti := htl i (by omega)
        refine wp_bipush (v := nI 48) (pc' := 26) rfl rfl rfl ?_
        refine wp_icmplt (pc' := 29) rfl rfl ?_ ?_
        · intro h26
          have hfin : (i, v) = dgN tv T p := by
            first | exact (dg_end (Or.inl (by have := ge_nI h14 (by omega); omega))).symm.trans hv3 | exact (dg_end (Or.inr (fun e => by have := lt_nI h26 (by omega) (by decide); omega))).symm.trans hv3 | exact (dg_end (Or.inr (fun e => by have := lt_nI h38 (by decide) (by omega); omega))).symm.trans hv3 | exact (dg_end (Or.inl (by omega))).symm.trans hv3
          have hf1 : (dgN tv T p).1 = i := by rw [← hfin]
          have hf2 : (dgN tv T p).2 = v := by rw [← hfin]
          refine wp_iload4 (pc' := 76) rfl rfl ?_
          refine wp_aload0 (pc' := 77) rfl rfl ?_
          refine wp_getI (pc' := 80) rfl rfl (by first | exact TK.k1 hT rfl | exact TK.kk hT rfl | exact TK.r hT rfl | assumption) rfl ?_
          rw [rdM_2]
          first | refine wp_isubN (pc' := 81) rfl (by with_reducible rfl) (by with_reducible rfl) (by omega) rfl ?_ | refine wp_isub (pc' := 81) rfl rfl ?_
          refine wp_istore5 (pc' := 83) rfl (by first | rfl | assumption) rfl ?_
          refine wp_iload5 (pc' := 85) rfl rfl ?_
          refine wp_iconst (v := nI 1) (pc' := 86) rfl rfl rfl ?_
          refine wp_icmplt (pc' := 89) rfl rfl ?_ ?_
          · intro h86
            refine wp_iconst (v := (-1)) (pc' := 106) rfl rfl rfl ?_
            refine wp_iret rfl rfl rfl ?_
            have hz : numR tv T p lw up = none := by
              unfold numR; rw [hf1, hf2]
              first | exact if_pos (Or.inl (lt_nI h86 (by omega) (by decide))) | exact if_pos (Or.inr (Or.inl (lt_nI h92 (by decide) (by omega)))) | exact if_pos (Or.inr (Or.inr (Or.inl h97))) | exact if_pos (Or.inr (Or.inr (Or.inr h102)))
            rw [hz] at kk
            exact kk
          · intro h86
            refine wp_iload5 (pc' := 91) rfl rfl ?_
            refine wp_iconst (v := nI 3) (pc' := 92) rfl rfl rfl ?_
            refine wp_icmpgt (pc' := 95) rfl rfl ?_ ?_
            · intro h92
              refine wp_iconst (v := (-1)) (pc' := 106) rfl rfl rfl ?_
              refine wp_iret rfl rfl rfl ?_
              have hz : numR tv T p lw up = none := by
                unfold numR; rw [hf1, hf2]
                first | exact if_pos (Or.inl (lt_nI h86 (by omega) (by decide))) | exact if_pos (Or.inr (Or.inl (lt_nI h92 (by decide) (by omega)))) | exact if_pos (Or.inr (Or.inr (Or.inl h97))) | exact if_pos (Or.inr (Or.inr (Or.inr h102)))
              rw [hz] at kk
              exact kk
            · intro h92
              refine wp_iload3 (pc' := 96) rfl rfl ?_
              refine wp_iload1 (pc' := 97) rfl rfl ?_
              refine wp_icmplt (pc' := 100) rfl rfl ?_ ?_
              · intro h97
                refine wp_iconst (v := (-1)) (pc' := 106) rfl rfl rfl ?_
                refine wp_iret rfl rfl rfl ?_
                have hz : numR tv T p lw up = none := by
                  unfold numR; rw [hf1, hf2]
                  first | exact if_pos (Or.inl (lt_nI h86 (by omega) (by decide))) | exact if_pos (Or.inr (Or.inl (lt_nI h92 (by decide) (by omega)))) | exact if_pos (Or.inr (Or.inr (Or.inl h97))) | exact if_pos (Or.inr (Or.inr (Or.inr h102)))
                rw [hz] at kk
                exact kk
              · intro h97
                refine wp_iload3 (pc' := 101) rfl rfl ?_
                refine wp_iload2 (pc' := 102) rfl rfl ?_
                refine wp_icmple (pc' := 105) rfl rfl ?_ ?_
                · intro h102
                  refine wp_aload0 (pc' := 108) rfl rfl ?_
                  refine wp_iload4 (pc' := 110) rfl rfl ?_
                  refine wp_callV2 (pc' := 113) rfl rfl rfl rfl rfl (by first | exact TK.k1 hT rfl | exact TK.kk hT rfl | exact TK.r hT rfl | assumption) rfl rfl ?_
                  refine c_goOn hT hR (by omega) ?_
                  refine Cont.u ?_
                  refine wp_iload3 (pc' := 114) rfl rfl ?_
                  refine wp_iret rfl rfl rfl ?_
                  have hz : numR tv T p lw up = some (v, skp tv T i) := by
                    unfold numR; rw [hf1, hf2]
                    exact if_neg (fun e => by
                      rcases e with e | e | e | e
                      · exact h86 (nI_lt e (by decide))
                      · exact h92 (nI_lt e (by omega))
                      · exact h97 e
                      · exact h102 e)
                  rw [hz] at kk
                  exact kk
                · intro h102
                  refine wp_iconst (v := (-1)) (pc' := 106) rfl rfl rfl ?_
                  refine wp_iret rfl rfl rfl ?_
                  have hz : numR tv T p lw up = none := by
                    unfold numR; rw [hf1, hf2]
                    first | exact if_pos (Or.inl (lt_nI h86 (by omega) (by decide))) | exact if_pos (Or.inr (Or.inl (lt_nI h92 (by decide) (by omega)))) | exact if_pos (Or.inr (Or.inr (Or.inl h97))) | exact if_pos (Or.inr (Or.inr (Or.inr h102)))
                  rw [hz] at kk
                  exact kk
        · intro h26
          refine wp_aload0 (pc' := 30) rfl rfl ?_
          refine wp_getRF (pc' := 33) rfl rfl (by first | exact TK.k1 hT rfl | exact TK.kk hT rfl | exact TK.r hT rfl | assumption) (by first | exact TK.k1 hT rfl | exact TK.kk hT rfl | exact TK.r hT rfl | assumption) rfl ?_
          refine wp_iload4 (pc' := 35) rfl rfl ?_
          refine wp_iald _ (pc' := 36) rfl (by first | exact TK.k1 hT rfl | exact TK.kk hT rfl | exact TK.r hT rfl | assumption) (by with_reducible rfl) (by omega) (by first | decide | assumption | omega) rfl ?_
          rw [rdM_o (by decide), htv _ (by omega)]
          refine wp_bipush (v := nI 57) (pc' := 38) rfl rfl rfl ?_
          refine wp_icmpgt (pc' := 41) rfl rfl ?_ ?_
          · intro h38
            have hfin : (i, v) = dgN tv T p := by
              first | exact (dg_end (Or.inl (by have := ge_nI h14 (by omega); omega))).symm.trans hv3 | exact (dg_end (Or.inr (fun e => by have := lt_nI h26 (by omega) (by decide); omega))).symm.trans hv3 | exact (dg_end (Or.inr (fun e => by have := lt_nI h38 (by decide) (by omega); omega))).symm.trans hv3 | exact (dg_end (Or.inl (by omega))).symm.trans hv3
            have hf1 : (dgN tv T p).1 = i := by rw [← hfin]
            have hf2 : (dgN tv T p).2 = v := by rw [← hfin]
            refine wp_iload4 (pc' := 76) rfl rfl ?_
            refine wp_aload0 (pc' := 77) rfl rfl ?_
            refine wp_getI (pc' := 80) rfl rfl (by first | exact TK.k1 hT rfl | exact TK.kk hT rfl | exact TK.r hT rfl | assumption) rfl ?_
            rw [rdM_2]
            first | refine wp_isubN (pc' := 81) rfl (by with_reducible rfl) (by with_reducible rfl) (by omega) rfl ?_ | refine wp_isub (pc' := 81) rfl rfl ?_
            refine wp_istore5 (pc' := 83) rfl (by first | rfl | assumption) rfl ?_
            refine wp_iload5 (pc' := 85) rfl rfl ?_
            refine wp_iconst (v := nI 1) (pc' := 86) rfl rfl rfl ?_
            refine wp_icmplt (pc' := 89) rfl rfl ?_ ?_
            · intro h86
              refine wp_iconst (v := (-1)) (pc' := 106) rfl rfl rfl ?_
              refine wp_iret rfl rfl rfl ?_
              have hz : numR tv T p lw up = none := by
                unfold numR; rw [hf1, hf2]
                first | exact if_pos (Or.inl (lt_nI h86 (by omega) (by decide))) | exact if_pos (Or.inr (Or.inl (lt_nI h92 (by decide) (by omega)))) | exact if_pos (Or.inr (Or.inr (Or.inl h97))) | exact if_pos (Or.inr (Or.inr (Or.inr h102)))
              rw [hz] at kk
              exact kk
            · intro h86
              refine wp_iload5 (pc' := 91) rfl rfl ?_
              refine wp_iconst (v := nI 3) (pc' := 92) rfl rfl rfl ?_
              refine wp_icmpgt (pc' := 95) rfl rfl ?_ ?_
              · intro h92
                refine wp_iconst (v := (-1)) (pc' := 106) rfl rfl rfl ?_
                refine wp_iret rfl rfl rfl ?_
                have hz : numR tv T p lw up = none := by
                  unfold numR; rw [hf1, hf2]
                  first | exact if_pos (Or.inl (lt_nI h86 (by omega) (by decide))) | exact if_pos (Or.inr (Or.inl (lt_nI h92 (by decide) (by omega)))) | exact if_pos (Or.inr (Or.inr (Or.inl h97))) | exact if_pos (Or.inr (Or.inr (Or.inr h102)))
                rw [hz] at kk
                exact kk
              · intro h92
                refine wp_iload3 (pc' := 96) rfl rfl ?_
                refine wp_iload1 (pc' := 97) rfl rfl ?_
                refine wp_icmplt (pc' := 100) rfl rfl ?_ ?_
                · intro h97
                  refine wp_iconst (v := (-1)) (pc' := 106) rfl rfl rfl ?_
                  refine wp_iret rfl rfl rfl ?_
                  have hz : numR tv T p lw up = none := by
                    unfold numR; rw [hf1, hf2]
                    first | exact if_pos (Or.inl (lt_nI h86 (by omega) (by decide))) | exact if_pos (Or.inr (Or.inl (lt_nI h92 (by decide) (by omega)))) | exact if_pos (Or.inr (Or.inr (Or.inl h97))) | exact if_pos (Or.inr (Or.inr (Or.inr h102)))
                  rw [hz] at kk
                  exact kk
                · intro h97
                  refine wp_iload3 (pc' := 101) rfl rfl ?_
                  refine wp_iload2 (pc' := 102) rfl rfl ?_
                  refine wp_icmple (pc' := 105) rfl rfl ?_ ?_
                  · intro h102
                    refine wp_aload0 (pc' := 108) rfl rfl ?_
                    refine wp_iload4 (pc' := 110) rfl rfl ?_
                    refine wp_callV2 (pc' := 113) rfl rfl rfl rfl rfl (by first | exact TK.k1 hT rfl | exact TK.kk hT rfl | exact TK.r hT rfl | assumption) rfl rfl ?_
                    refine c_goOn hT hR (by omega) ?_
                    refine Cont.u ?_
                    refine wp_iload3 (pc' := 114) rfl rfl ?_
                    refine wp_iret rfl rfl rfl ?_
                    have hz : numR tv T p lw up = some (v, skp tv T i) := by
                      unfold numR; rw [hf1, hf2]
                      exact if_neg (fun e => by
                        rcases e with e | e | e | e
                        · exact h86 (nI_lt e (by decide))
                        · exact h92 (nI_lt e (by omega))
                        · exact h97 e
                        · exact h102 e)
                    rw [hz] at kk
                    exact kk
                  · intro h102
                    refine wp_iconst (v := (-1)) (pc' := 106) rfl rfl rfl ?_
                    refine wp_iret rfl rfl rfl ?_
                    have hz : numR tv T p lw up = none := by
                      unfold numR; rw [hf1, hf2]
                      first | exact if_pos (Or.inl (lt_nI h86 (by omega) (by decide))) | exact if_pos (Or.inr (Or.inl (lt_nI h92 (by decide) (by omega)))) | exact if_pos (Or.inr (Or.inr (Or.inl h97))) | exact if_pos (Or.inr (Or.inr (Or.inr h102)))
                    rw [hz] at kk
                    exact kk
          · intro h38
            refine wp_iload4 (pc' := 43) rfl rfl ?_
            refine wp_aload0 (pc' := 44) rfl rfl ?_
            refine wp_getI (pc' := 47) rfl rfl (by first | exact TK.k1 hT rfl | exact TK.kk hT rfl | exact TK.r hT rfl | assumption) rfl ?_
            rw [rdM_2]
            first | refine wp_isubN (pc' := 48) rfl (by with_reducible rfl) (by with_reducible rfl) (by omega) rfl ?_ | refine wp_isub (pc' := 48) rfl rfl ?_
            refine wp_iconst (v := nI 4) (pc' := 49) rfl rfl rfl ?_
            refine wp_icmpgeT rfl (nI_nlt (by omega) (by omega)) ?_
            have hfin : (i, v) = dgN tv T p := by
              first | exact (dg_end (Or.inl (by have := ge_nI h14 (by omega); omega))).symm.trans hv3 | exact (dg_end (Or.inr (fun e => by have := lt_nI h26 (by omega) (by decide); omega))).symm.trans hv3 | exact (dg_end (Or.inr (fun e => by have := lt_nI h38 (by decide) (by omega); omega))).symm.trans hv3 | exact (dg_end (Or.inl (by omega))).symm.trans hv3
            have hf1 : (dgN tv T p).1 = i := by rw [← hfin]
            have hf2 : (dgN tv T p).2 = v := by rw [← hfin]
            refine wp_iload4 (pc' := 76) rfl rfl ?_
            refine wp_aload0 (pc' := 77) rfl rfl ?_
            refine wp_getI (pc' := 80) rfl rfl (by first | exact TK.k1 hT rfl | exact TK.kk hT rfl | exact TK.r hT rfl | assumption) rfl ?_
            rw [rdM_2]
            first | refine wp_isubN (pc' := 81) rfl (by with_reducible rfl) (by with_reducible rfl) (by omega) rfl ?_ | refine wp_isub (pc' := 81) rfl rfl ?_
            refine wp_istore5 (pc' := 83) rfl (by first | rfl | assumption) rfl ?_
            refine wp_iload5 (pc' := 85) rfl rfl ?_
            refine wp_iconst (v := nI 1) (pc' := 86) rfl rfl rfl ?_
            refine wp_icmplt (pc' := 89) rfl rfl ?_ ?_
            · intro h86
              refine wp_iconst (v := (-1)) (pc' := 106) rfl rfl rfl ?_
              refine wp_iret rfl rfl rfl ?_
              have hz : numR tv T p lw up = none := by
                unfold numR; rw [hf1, hf2]
                first | exact if_pos (Or.inl (lt_nI h86 (by omega) (by decide))) | exact if_pos (Or.inr (Or.inl (lt_nI h92 (by decide) (by omega)))) | exact if_pos (Or.inr (Or.inr (Or.inl h97))) | exact if_pos (Or.inr (Or.inr (Or.inr h102)))
              rw [hz] at kk
              exact kk
            · intro h86
              refine wp_iload5 (pc' := 91) rfl rfl ?_
              refine wp_iconst (v := nI 3) (pc' := 92) rfl rfl rfl ?_
              refine wp_icmpgt (pc' := 95) rfl rfl ?_ ?_
              · intro h92
                refine wp_iconst (v := (-1)) (pc' := 106) rfl rfl rfl ?_
                refine wp_iret rfl rfl rfl ?_
                have hz : numR tv T p lw up = none := by
                  unfold numR; rw [hf1, hf2]
                  first | exact if_pos (Or.inl (lt_nI h86 (by omega) (by decide))) | exact if_pos (Or.inr (Or.inl (lt_nI h92 (by decide) (by omega)))) | exact if_pos (Or.inr (Or.inr (Or.inl h97))) | exact if_pos (Or.inr (Or.inr (Or.inr h102)))
                rw [hz] at kk
                exact kk
              · intro h92
                refine wp_iload3 (pc' := 96) rfl rfl ?_
                refine wp_iload1 (pc' := 97) rfl rfl ?_
                refine wp_icmplt (pc' := 100) rfl rfl ?_ ?_
                · intro h97
                  refine wp_iconst (v := (-1)) (pc' := 106) rfl rfl rfl ?_
                  refine wp_iret rfl rfl rfl ?_
                  have hz : numR tv T p lw up = none := by
                    unfold numR; rw [hf1, hf2]
                    first | exact if_pos (Or.inl (lt_nI h86 (by omega) (by decide))) | exact if_pos (Or.inr (Or.inl (lt_nI h92 (by decide) (by omega)))) | exact if_pos (Or.inr (Or.inr (Or.inl h97))) | exact if_pos (Or.inr (Or.inr (Or.inr h102)))
                  rw [hz] at kk
                  exact kk
                · intro h97
                  refine wp_iload3 (pc' := 101) rfl rfl ?_
                  refine wp_iload2 (pc' := 102) rfl rfl ?_
                  refine wp_icmple (pc' := 105) rfl rfl ?_ ?_
                  · intro h102
                    refine wp_aload0 (pc' := 108) rfl rfl ?_
                    refine wp_iload4 (pc' := 110) rfl rfl ?_
                    refine wp_callV2 (pc' := 113) rfl rfl rfl rfl rfl (by first | exact TK.k1 hT rfl | exact TK.kk hT rfl | exact TK.r hT rfl | assumption) rfl rfl ?_
                    refine c_goOn hT hR (by omega) ?_
                    refine Cont.u ?_
                    refine wp_iload3 (pc' := 114) rfl rfl ?_
                    refine wp_iret rfl rfl rfl ?_
                    have hz : numR tv T p lw up = some (v, skp tv T i) := by
                      unfold numR; rw [hf1, hf2]
                      exact if_neg (fun e => by
                        rcases e with e | e | e | e
                        · exact h86 (nI_lt e (by decide))
                        · exact h92 (nI_lt e (by omega))
                        · exact h97 e
                        · exact h102 e)
                    rw [hz] at kk
                    exact kk
                  · intro h102
                    refine wp_iconst (v := (-1)) (pc' := 106) rfl rfl rfl ?_
                    refine wp_iret rfl rfl rfl ?_
                    have hz : numR tv T p lw up = none := by
                      unfold numR; rw [hf1, hf2]
                      first | exact if_pos (Or.inl (lt_nI h86 (by omega) (by decide))) | exact if_pos (Or.inr (Or.inl (lt_nI h92 (by decide) (by omega)))) | exact if_pos (Or.inr (Or.inr (Or.inl h97))) | exact if_pos (Or.inr (Or.inr (Or.inr h102)))
                    rw [hz] at kk
                    exact kk
    | succ r ih =>
      intro i v v5 hi hv0 hv1 hv2 hv3 hv4
      have hv4 := dg_4 (by omega) hv0
      refine wp_iload4 (pc' := 10) rfl rfl ?_
      refine wp_aload0 (pc' := 11) rfl rfl ?_
      refine wp_getI (pc' := 14) rfl rfl (by first | exact TK.k1 hT rfl | exact TK.kk hT rfl | exact TK.r hT rfl | assumption) rfl ?_
      rw [rdM_1, hL]
      refine wp_icmpge (pc' := 17) rfl rfl ?_ ?_
      · intro h14
        have hfin : (i, v) = dgN tv T p := by
          first | exact (dg_end (Or.inl (by have := ge_nI h14 (by omega); omega))).symm.trans hv3 | exact (dg_end (Or.inr (fun e => by have := lt_nI h26 (by omega) (by decide); omega))).symm.trans hv3 | exact (dg_end (Or.inr (fun e => by have := lt_nI h38 (by decide) (by omega); omega))).symm.trans hv3 | exact (dg_end (Or.inl (by omega))).symm.trans hv3
        have hf1 : (dgN tv T p).1 = i := by rw [← hfin]
        have hf2 : (dgN tv T p).2 = v := by rw [← hfin]
        refine wp_iload4 (pc' := 76) rfl rfl ?_
        refine wp_aload0 (pc' := 77) rfl rfl ?_
        refine wp_getI (pc' := 80) rfl rfl (by first | exact TK.k1 hT rfl | exact TK.kk hT rfl | exact TK.r hT rfl | assumption) rfl ?_
        rw [rdM_2]
        first | refine wp_isubN (pc' := 81) rfl (by with_reducible rfl) (by with_reducible rfl) (by omega) rfl ?_ | refine wp_isub (pc' := 81) rfl rfl ?_
        refine wp_istore5 (pc' := 83) rfl (by first | rfl | assumption) rfl ?_
        refine wp_iload5 (pc' := 85) rfl rfl ?_
        refine wp_iconst (v := nI 1) (pc' := 86) rfl rfl rfl ?_
        refine wp_icmplt (pc' := 89) rfl rfl ?_ ?_
        · intro h86
          refine wp_iconst (v := (-1)) (pc' := 106) rfl rfl rfl ?_
          refine wp_iret rfl rfl rfl ?_
          have hz : numR tv T p lw up = none := by
            unfold numR; rw [hf1, hf2]
            first | exact if_pos (Or.inl (lt_nI h86 (by omega) (by decide))) | exact if_pos (Or.inr (Or.inl (lt_nI h92 (by decide) (by omega)))) | exact if_pos (Or.inr (Or.inr (Or.inl h97))) | exact if_pos (Or.inr (Or.inr (Or.inr h102)))
          rw [hz] at kk
          exact kk
        · intro h86
          refine wp_iload5 (pc' := 91) rfl rfl ?_
          refine wp_iconst (v := nI 3) (pc' := 92) rfl rfl rfl ?_
          refine wp_icmpgt (pc' := 95) rfl rfl ?_ ?_
          · intro h92
            refine wp_iconst (v := (-1)) (pc' := 106) rfl rfl rfl ?_
            refine wp_iret rfl rfl rfl ?_
            have hz : numR tv T p lw up = none := by
              unfold numR; rw [hf1, hf2]
              first | exact if_pos (Or.inl (lt_nI h86 (by omega) (by decide))) | exact if_pos (Or.inr (Or.inl (lt_nI h92 (by decide) (by omega)))) | exact if_pos (Or.inr (Or.inr (Or.inl h97))) | exact if_pos (Or.inr (Or.inr (Or.inr h102)))
            rw [hz] at kk
            exact kk
          · intro h92
            refine wp_iload3 (pc' := 96) rfl rfl ?_
            refine wp_iload1 (pc' := 97) rfl rfl ?_
            refine wp_icmplt (pc' := 100) rfl rfl ?_ ?_
            · intro h97
              refine wp_iconst (v := (-1)) (pc' := 106) rfl rfl rfl ?_
              refine wp_iret rfl rfl rfl ?_
              have hz : numR tv T p lw up = none := by
                unfold numR; rw [hf1, hf2]
                first | exact if_pos (Or.inl (lt_nI h86 (by omega) (by decide))) | exact if_pos (Or.inr (Or.inl (lt_nI h92 (by decide) (by omega)))) | exact if_pos (Or.inr (Or.inr (Or.inl h97))) | exact if_pos (Or.inr (Or.inr (Or.inr h102)))
              rw [hz] at kk
              exact kk
            · intro h97
              refine wp_iload3 (pc' := 101) rfl rfl ?_
              refine wp_iload2 (pc' := 102) rfl rfl ?_
              refine wp_icmple (pc' := 105) rfl rfl ?_ ?_
              · intro h102
                refine wp_aload0 (pc' := 108) rfl rfl ?_
                refine wp_iload4 (pc' := 110) rfl rfl ?_
                refine wp_callV2 (pc' := 113) rfl rfl rfl rfl rfl (by first | exact TK.k1 hT rfl | exact TK.kk hT rfl | exact TK.r hT rfl | assumption) rfl rfl ?_
                refine c_goOn hT hR (by omega) ?_
                refine Cont.u ?_
                refine wp_iload3 (pc' := 114) rfl rfl ?_
                refine wp_iret rfl rfl rfl ?_
                have hz : numR tv T p lw up = some (v, skp tv T i) := by
                  unfold numR; rw [hf1, hf2]
                  exact if_neg (fun e => by
                    rcases e with e | e | e | e
                    · exact h86 (nI_lt e (by decide))
                    · exact h92 (nI_lt e (by omega))
                    · exact h97 e
                    · exact h102 e)
                rw [hz] at kk
                exact kk
              · intro h102
                refine wp_iconst (v := (-1)) (pc' := 106) rfl rfl rfl ?_
                refine wp_iret rfl rfl rfl ?_
                have hz : numR tv T p lw up = none := by
                  unfold numR; rw [hf1, hf2]
                  first | exact if_pos (Or.inl (lt_nI h86 (by omega) (by decide))) | exact if_pos (Or.inr (Or.inl (lt_nI h92 (by decide) (by omega)))) | exact if_pos (Or.inr (Or.inr (Or.inl h97))) | exact if_pos (Or.inr (Or.inr (Or.inr h102)))
                rw [hz] at kk
                exact kk
      · intro h14
        have hiT : i < T := lt_nI h14 (by omega) (by omega)
        refine wp_aload0 (pc' := 18) rfl rfl ?_
        refine wp_getRF (pc' := 21) rfl rfl (by first | exact TK.k1 hT rfl | exact TK.kk hT rfl | exact TK.r hT rfl | assumption) (by first | exact TK.k1 hT rfl | exact TK.kk hT rfl | exact TK.r hT rfl | assumption) rfl ?_
        refine wp_iload4 (pc' := 23) rfl rfl ?_
        refine wp_iald _ (pc' := 24) rfl (by first | exact TK.k1 hT rfl | exact TK.kk hT rfl | exact TK.r hT rfl | assumption) (by with_reducible rfl) (by omega) (by first | decide | assumption | omega) rfl ?_
        rw [rdM_o (by decide), htv _ (by omega)]
        have hti := htl i (by omega)
        refine wp_bipush (v := nI 48) (pc' := 26) rfl rfl rfl ?_
        refine wp_icmplt (pc' := 29) rfl rfl ?_ ?_
        · intro h26
          have hfin : (i, v) = dgN tv T p := by
            first | exact (dg_end (Or.inl (by have := ge_nI h14 (by omega); omega))).symm.trans hv3 | exact (dg_end (Or.inr (fun e => by have := lt_nI h26 (by omega) (by decide); omega))).symm.trans hv3 | exact (dg_end (Or.inr (fun e => by have := lt_nI h38 (by decide) (by omega); omega))).symm.trans hv3 | exact (dg_end (Or.inl (by omega))).symm.trans hv3
          have hf1 : (dgN tv T p).1 = i := by rw [← hfin]
          have hf2 : (dgN tv T p).2 = v := by rw [← hfin]
          refine wp_iload4 (pc' := 76) rfl rfl ?_
          refine wp_aload0 (pc' := 77) rfl rfl ?_
          refine wp_getI (pc' := 80) rfl rfl (by first | exact TK.k1 hT rfl | exact TK.kk hT rfl | exact TK.r hT rfl | assumption) rfl ?_
          rw [rdM_2]
          first | refine wp_isubN (pc' := 81) rfl (by with_reducible rfl) (by with_reducible rfl) (by omega) rfl ?_ | refine wp_isub (pc' := 81) rfl rfl ?_
          refine wp_istore5 (pc' := 83) rfl (by first | rfl | assumption) rfl ?_
          refine wp_iload5 (pc' := 85) rfl rfl ?_
          refine wp_iconst (v := nI 1) (pc' := 86) rfl rfl rfl ?_
          refine wp_icmplt (pc' := 89) rfl rfl ?_ ?_
          · intro h86
            refine wp_iconst (v := (-1)) (pc' := 106) rfl rfl rfl ?_
            refine wp_iret rfl rfl rfl ?_
            have hz : numR tv T p lw up = none := by
              unfold numR; rw [hf1, hf2]
              first | exact if_pos (Or.inl (lt_nI h86 (by omega) (by decide))) | exact if_pos (Or.inr (Or.inl (lt_nI h92 (by decide) (by omega)))) | exact if_pos (Or.inr (Or.inr (Or.inl h97))) | exact if_pos (Or.inr (Or.inr (Or.inr h102)))
            rw [hz] at kk
            exact kk
          · intro h86
            refine wp_iload5 (pc' := 91) rfl rfl ?_
            refine wp_iconst (v := nI 3) (pc' := 92) rfl rfl rfl ?_
            refine wp_icmpgt (pc' := 95) rfl rfl ?_ ?_
            · intro h92
              refine wp_iconst (v := (-1)) (pc' := 106) rfl rfl rfl ?_
              refine wp_iret rfl rfl rfl ?_
              have hz : numR tv T p lw up = none := by
                unfold numR; rw [hf1, hf2]
                first | exact if_pos (Or.inl (lt_nI h86 (by omega) (by decide))) | exact if_pos (Or.inr (Or.inl (lt_nI h92 (by decide) (by omega)))) | exact if_pos (Or.inr (Or.inr (Or.inl h97))) | exact if_pos (Or.inr (Or.inr (Or.inr h102)))
              rw [hz] at kk
              exact kk
            · intro h92
              refine wp_iload3 (pc' := 96) rfl rfl ?_
              refine wp_iload1 (pc' := 97) rfl rfl ?_
              refine wp_icmplt (pc' := 100) rfl rfl ?_ ?_
              · intro h97
                refine wp_iconst (v := (-1)) (pc' := 106) rfl rfl rfl ?_
                refine wp_iret rfl rfl rfl ?_
                have hz : numR tv T p lw up = none := by
                  unfold numR; rw [hf1, hf2]
                  first | exact if_pos (Or.inl (lt_nI h86 (by omega) (by decide))) | exact if_pos (Or.inr (Or.inl (lt_nI h92 (by decide) (by omega)))) | exact if_pos (Or.inr (Or.inr (Or.inl h97))) | exact if_pos (Or.inr (Or.inr (Or.inr h102)))
                rw [hz] at kk
                exact kk
              · intro h97
                refine wp_iload3 (pc' := 101) rfl rfl ?_
                refine wp_iload2 (pc' := 102) rfl rfl ?_
                refine wp_icmple (pc' := 105) rfl rfl ?_ ?_
                · intro h102
                  refine wp_aload0 (pc' := 108) rfl rfl ?_
                  refine wp_iload4 (pc' := 110) rfl rfl ?_
                  refine wp_callV2 (pc' := 113) rfl rfl rfl rfl rfl (by first | exact TK.k1 hT rfl | exact TK.kk hT rfl | exact TK.r hT rfl | assumption) rfl rfl ?_
                  refine c_goOn hT hR (by omega) ?_
                  refine Cont.u ?_
                  refine wp_iload3 (pc' := 114) rfl rfl ?_
                  refine wp_iret rfl rfl rfl ?_
                  have hz : numR tv T p lw up = some (v, skp tv T i) := by
                    unfold numR; rw [hf1, hf2]
                    exact if_neg (fun e => by
                      rcases e with e | e | e | e
                      · exact h86 (nI_lt e (by decide))
                      · exact h92 (nI_lt e (by omega))
                      · exact h97 e
                      · exact h102 e)
                  rw [hz] at kk
                  exact kk
                · intro h102
                  refine wp_iconst (v := (-1)) (pc' := 106) rfl rfl rfl ?_
                  refine wp_iret rfl rfl rfl ?_
                  have hz : numR tv T p lw up = none := by
                    unfold numR; rw [hf1, hf2]
                    first | exact if_pos (Or.inl (lt_nI h86 (by omega) (by decide))) | exact if_pos (Or.inr (Or.inl (lt_nI h92 (by decide) (by omega)))) | exact if_pos (Or.inr (Or.inr (Or.inl h97))) | exact if_pos (Or.inr (Or.inr (Or.inr h102)))
                  rw [hz] at kk
                  exact kk
        · intro h26
          refine wp_aload0 (pc' := 30) rfl rfl ?_
          refine wp_getRF (pc' := 33) rfl rfl (by first | exact TK.k1 hT rfl | exact TK.kk hT rfl | exact TK.r hT rfl | assumption) (by first | exact TK.k1 hT rfl | exact TK.kk hT rfl | exact TK.r hT rfl | assumption) rfl ?_
          refine wp_iload4 (pc' := 35) rfl rfl ?_
          refine wp_iald _ (pc' := 36) rfl (by first | exact TK.k1 hT rfl | exact TK.kk hT rfl | exact TK.r hT rfl | assumption) (by with_reducible rfl) (by omega) (by first | decide | assumption | omega) rfl ?_
          rw [rdM_o (by decide), htv _ (by omega)]
          refine wp_bipush (v := nI 57) (pc' := 38) rfl rfl rfl ?_
          refine wp_icmpgt (pc' := 41) rfl rfl ?_ ?_
          · intro h38
            have hfin : (i, v) = dgN tv T p := by
              first | exact (dg_end (Or.inl (by have := ge_nI h14 (by omega); omega))).symm.trans hv3 | exact (dg_end (Or.inr (fun e => by have := lt_nI h26 (by omega) (by decide); omega))).symm.trans hv3 | exact (dg_end (Or.inr (fun e => by have := lt_nI h38 (by decide) (by omega); omega))).symm.trans hv3 | exact (dg_end (Or.inl (by omega))).symm.trans hv3
            have hf1 : (dgN tv T p).1 = i := by rw [← hfin]
            have hf2 : (dgN tv T p).2 = v := by rw [← hfin]
            refine wp_iload4 (pc' := 76) rfl rfl ?_
            refine wp_aload0 (pc' := 77) rfl rfl ?_
            refine wp_getI (pc' := 80) rfl rfl (by first | exact TK.k1 hT rfl | exact TK.kk hT rfl | exact TK.r hT rfl | assumption) rfl ?_
            rw [rdM_2]
            first | refine wp_isubN (pc' := 81) rfl (by with_reducible rfl) (by with_reducible rfl) (by omega) rfl ?_ | refine wp_isub (pc' := 81) rfl rfl ?_
            refine wp_istore5 (pc' := 83) rfl (by first | rfl | assumption) rfl ?_
            refine wp_iload5 (pc' := 85) rfl rfl ?_
            refine wp_iconst (v := nI 1) (pc' := 86) rfl rfl rfl ?_
            refine wp_icmplt (pc' := 89) rfl rfl ?_ ?_
            · intro h86
              refine wp_iconst (v := (-1)) (pc' := 106) rfl rfl rfl ?_
              refine wp_iret rfl rfl rfl ?_
              have hz : numR tv T p lw up = none := by
                unfold numR; rw [hf1, hf2]
                first | exact if_pos (Or.inl (lt_nI h86 (by omega) (by decide))) | exact if_pos (Or.inr (Or.inl (lt_nI h92 (by decide) (by omega)))) | exact if_pos (Or.inr (Or.inr (Or.inl h97))) | exact if_pos (Or.inr (Or.inr (Or.inr h102)))
              rw [hz] at kk
              exact kk
            · intro h86
              refine wp_iload5 (pc' := 91) rfl rfl ?_
              refine wp_iconst (v := nI 3) (pc' := 92) rfl rfl rfl ?_
              refine wp_icmpgt (pc' := 95) rfl rfl ?_ ?_
              · intro h92
                refine wp_iconst (v := (-1)) (pc' := 106) rfl rfl rfl ?_
                refine wp_iret rfl rfl rfl ?_
                have hz : numR tv T p lw up = none := by
                  unfold numR; rw [hf1, hf2]
                  first | exact if_pos (Or.inl (lt_nI h86 (by omega) (by decide))) | exact if_pos (Or.inr (Or.inl (lt_nI h92 (by decide) (by omega)))) | exact if_pos (Or.inr (Or.inr (Or.inl h97))) | exact if_pos (Or.inr (Or.inr (Or.inr h102)))
                rw [hz] at kk
                exact kk
              · intro h92
                refine wp_iload3 (pc' := 96) rfl rfl ?_
                refine wp_iload1 (pc' := 97) rfl rfl ?_
                refine wp_icmplt (pc' := 100) rfl rfl ?_ ?_
                · intro h97
                  refine wp_iconst (v := (-1)) (pc' := 106) rfl rfl rfl ?_
                  refine wp_iret rfl rfl rfl ?_
                  have hz : numR tv T p lw up = none := by
                    unfold numR; rw [hf1, hf2]
                    first | exact if_pos (Or.inl (lt_nI h86 (by omega) (by decide))) | exact if_pos (Or.inr (Or.inl (lt_nI h92 (by decide) (by omega)))) | exact if_pos (Or.inr (Or.inr (Or.inl h97))) | exact if_pos (Or.inr (Or.inr (Or.inr h102)))
                  rw [hz] at kk
                  exact kk
                · intro h97
                  refine wp_iload3 (pc' := 101) rfl rfl ?_
                  refine wp_iload2 (pc' := 102) rfl rfl ?_
                  refine wp_icmple (pc' := 105) rfl rfl ?_ ?_
                  · intro h102
                    refine wp_aload0 (pc' := 108) rfl rfl ?_
                    refine wp_iload4 (pc' := 110) rfl rfl ?_
                    refine wp_callV2 (pc' := 113) rfl rfl rfl rfl rfl (by first | exact TK.k1 hT rfl | exact TK.kk hT rfl | exact TK.r hT rfl | assumption) rfl rfl ?_
                    refine c_goOn hT hR (by omega) ?_
                    refine Cont.u ?_
                    refine wp_iload3 (pc' := 114) rfl rfl ?_
                    refine wp_iret rfl rfl rfl ?_
                    have hz : numR tv T p lw up = some (v, skp tv T i) := by
                      unfold numR; rw [hf1, hf2]
                      exact if_neg (fun e => by
                        rcases e with e | e | e | e
                        · exact h86 (nI_lt e (by decide))
                        · exact h92 (nI_lt e (by omega))
                        · exact h97 e
                        · exact h102 e)
                    rw [hz] at kk
                    exact kk
                  · intro h102
                    refine wp_iconst (v := (-1)) (pc' := 106) rfl rfl rfl ?_
                    refine wp_iret rfl rfl rfl ?_
                    have hz : numR tv T p lw up = none := by
                      unfold numR; rw [hf1, hf2]
                      first | exact if_pos (Or.inl (lt_nI h86 (by omega) (by decide))) | exact if_pos (Or.inr (Or.inl (lt_nI h92 (by decide) (by omega)))) | exact if_pos (Or.inr (Or.inr (Or.inl h97))) | exact if_pos (Or.inr (Or.inr (Or.inr h102)))
                    rw [hz] at kk
                    exact kk
          · intro h38
            refine wp_iload4 (pc' := 43) rfl rfl ?_
            refine wp_aload0 (pc' := 44) rfl rfl ?_
            refine wp_getI (pc' := 47) rfl rfl (by first | exact TK.k1 hT rfl | exact TK.kk hT rfl | exact TK.r hT rfl | assumption) rfl ?_
            rw [rdM_2]
            first | refine wp_isubN (pc' := 48) rfl (by with_reducible rfl) (by with_reducible rfl) (by omega) rfl ?_ | refine wp_isub (pc' := 48) rfl rfl ?_
            refine wp_iconst (v := nI 4) (pc' := 49) rfl rfl rfl ?_
            refine wp_icmpgeF (pc' := 52) rfl (nI_lt (by omega) (by omega)) rfl ?_
            have hd1 : 48 ≤ tv i := ge_nI h26 (by decide)
            have hd2 : tv i ≤ 57 := ge_nI h38 (by omega)
            refine wp_bipush (v := nI 10) (pc' := 54) rfl rfl rfl ?_
            refine wp_iload3 (pc' := 55) rfl rfl ?_
            first | refine wp_imulN (pc' := 56) rfl (by with_reducible rfl) (by with_reducible rfl) rfl ?_ | refine wp_imul (pc' := 56) rfl rfl ?_
            refine wp_aload0 (pc' := 57) rfl rfl ?_
            refine wp_getRF (pc' := 60) rfl rfl (by first | exact TK.k1 hT rfl | exact TK.kk hT rfl | exact TK.r hT rfl | assumption) (by first | exact TK.k1 hT rfl | exact TK.kk hT rfl | exact TK.r hT rfl | assumption) rfl ?_
            refine wp_iload4 (pc' := 62) rfl rfl ?_
            refine wp_iald _ (pc' := 63) rfl (by first | exact TK.k1 hT rfl | exact TK.kk hT rfl | exact TK.r hT rfl | assumption) (by with_reducible rfl) (by omega) (by first | decide | assumption | omega) rfl ?_
            rw [rdM_o (by decide), htv _ (by omega)]
            first | refine wp_iaddN (pc' := 64) rfl (by with_reducible rfl) (by with_reducible rfl) rfl ?_ | refine wp_iadd (pc' := 64) rfl rfl ?_
            refine wp_bipush (v := nI 48) (pc' := 66) rfl rfl rfl ?_
            first | refine wp_isubN (pc' := 67) rfl (by with_reducible rfl) (by with_reducible rfl) (by omega) rfl ?_ | refine wp_isub (pc' := 67) rfl rfl ?_
            refine wp_istore3 (pc' := 68) rfl (by first | rfl | assumption) rfl ?_
            have hvn : dgF tv (min 4 (T - p) - (i + 1 - p)) (i + 1) (10 * v + (tv i - 48)) = dgN tv T p := by
              have h := hv3
              rw [show min 4 (T - p) - (i - p) = (min 4 (T - p) - (i + 1 - p)) + 1 by omega, dgF, if_pos ⟨hd1, hd2⟩] at h; exact h
            first | refine wp_iinc4 (w := nI 1) (pc' := 71) rfl rfl rfl (by with_reducible exact nI_add _ _) rfl ?_ | refine wp_iinc4 (w := nI 1) (pc' := 71) rfl rfl rfl rfl rfl ?_
            refine wp_goto rfl ?_
            exact WP.cg (ih (i + 1) (10 * v + (tv i - 48)) _ (by omega) (dg_pow hv1 hv0 (by omega)) (by omega) (by omega) hvn (by first | rfl | assumption)) (lC1 (lI1 (by first | with_reducible rfl | (congr 1; omega)) (lI1 (by first | with_reducible rfl | (congr 1; omega)) (lI1 (by first | with_reducible rfl | (congr 1; omega)) (lI1 (by first | with_reducible rfl | (congr 1; omega)) (lC1 rfl)))))) rfl (by rfl)
  exact WP.cg (lp8 4 (p) 0 _ rfl (by rw [Nat.sub_self]; decide) (Nat.le_refl _) hp (by rw [Nat.sub_self]; rfl) (by first | rfl | assumption)) (lC1 (lI1 (by with_reducible rfl) (lI1 (by with_reducible rfl) (lI1 (by with_reducible rfl) (lI1 (by with_reducible rfl) (lC1 rfl)))))) rfl (by rfl)
theorem c_coder {d : Nat} {K : Nat → Nat × Nat} {I : Nat → Nat → Int32} {L : Nat → Nat → Int64} {R : Nat → Nat → Option Nat} {n s : Nat} {Q : Lo → Lm → Prop} {i : Nat} (hS : SS K I R) (hi : i < 57) (kk : Q (.inl (some (.int (0)))) (K, I, L, R, n, s)) : Ok (d + 1) 74 [.ref (lmB + 2 * i)] (K, I, L, R, n, s) Q := by
  obtain ⟨s1, s2, s3, s4, s5⟩ := hS i hi
  have s1b : (K (lmB + 2 * i)).1 = 13 := by rw [s1]
  obtain ⟨s6, -⟩ := sB_small ⟨i, hi⟩
  have s6 : (sB i).length < 100 := s6
  refine Ok.enter (F := F_74) (ls := [.ref (lmB + 2 * i)]) rfl rfl ?_
  refine wp_pool (v := .int (nI 1)) (pc' := 3) rfl rfl rfl rfl rfl ?_
  refine wp_ifeqF (pc' := 6) rfl (by decide) rfl ?_
  refine wp_aload0 (pc' := 7) rfl rfl ?_
  refine wp_getIF (pc' := 10) rfl rfl (by assumption) rfl ?_
  rw [s4]
  refine wp_goto rfl ?_
  refine wp_iret rfl rfl rfl ?_
  exact kk
theorem c_isLatin1 {d : Nat} {K : Nat → Nat × Nat} {I : Nat → Nat → Int32} {L : Nat → Nat → Int64} {R : Nat → Nat → Option Nat} {n s : Nat} {Q : Lo → Lm → Prop} {i : Nat} (hS : SS K I R) (hi : i < 57) (kk : Q (.inl (some (.int (nI 1)))) (K, I, L, R, n, s)) : Ok (d + 1) 76 [.ref (lmB + 2 * i)] (K, I, L, R, n, s) Q := by
  obtain ⟨s1, s2, s3, s4, s5⟩ := hS i hi
  have s1b : (K (lmB + 2 * i)).1 = 13 := by rw [s1]
  obtain ⟨s6, -⟩ := sB_small ⟨i, hi⟩
  have s6 : (sB i).length < 100 := s6
  refine Ok.enter (F := F_76) (ls := [.ref (lmB + 2 * i)]) rfl rfl ?_
  refine wp_pool (v := .int (nI 1)) (pc' := 3) rfl rfl rfl rfl rfl ?_
  refine wp_ifeqF (pc' := 6) rfl (by decide) rfl ?_
  refine wp_aload0 (pc' := 7) rfl rfl ?_
  refine wp_getIF (pc' := 10) rfl rfl (by assumption) rfl ?_
  rw [s4]
  refine wp_ifneF (pc' := 13) rfl rfl rfl ?_
  refine wp_iconst (v := nI 1) (pc' := 14) rfl rfl rfl ?_
  refine wp_goto rfl ?_
  refine wp_iret rfl rfl (by first | rfl | exact nar_if) ?_
  exact kk
theorem c_strlen {d : Nat} {K : Nat → Nat × Nat} {I : Nat → Nat → Int32} {L : Nat → Nat → Int64} {R : Nat → Nat → Option Nat} {n s : Nat} {Q : Lo → Lm → Prop} {i : Nat} (hS : SS K I R) (hi : i < 57) (kk : Q (.inl (some (.int (nI (sB i).length)))) (K, I, L, R, n, s)) : Ok (d + 2) 73 [.ref (lmB + 2 * i)] (K, I, L, R, n, s) Q := by
  obtain ⟨s1, s2, s3, s4, s5⟩ := hS i hi
  have s1b : (K (lmB + 2 * i)).1 = 13 := by rw [s1]
  obtain ⟨s6, -⟩ := sB_small ⟨i, hi⟩
  have s6 : (sB i).length < 100 := s6
  refine Ok.enter (F := F_73) (ls := [.ref (lmB + 2 * i)]) rfl rfl ?_
  refine wp_aload0 (pc' := 1) rfl rfl ?_
  refine wp_getRF (pc' := 4) rfl rfl (by assumption) (by assumption) rfl ?_
  refine wp_alen (pc' := 5) rfl (by assumption) rfl rfl rfl ?_
  refine wp_aload0 (pc' := 6) rfl rfl ?_
  refine wp_callV1 (pc' := 9) rfl rfl rfl rfl rfl (by assumption) rfl rfl ?_
  refine c_coder hS hi ?_
  refine Cont.v ?_
  refine wp_ishr (pc' := 10) rfl rfl ?_
  refine wp_iret rfl rfl rfl ?_
  exact Qv kk (shr0 (by omega)) rfl
theorem c_latAt {d : Nat} {K : Nat → Nat × Nat} {I : Nat → Nat → Int32} {L : Nat → Nat → Int64} {R : Nat → Nat → Option Nat} {n s : Nat} {Q : Lo → Lm → Prop} {i j : Nat} (hS : SS K I R) (hi : i < 57) (hj : j < (sB i).length) (kk : Q (.inl (some (.int (nI ((sB i).getD j 0))))) (K, I, L, R, n, s)) : Ok (d + 1) 77 [.ref (lmB + (2 * i + 1)), .int (nI j)] (K, I, L, R, n, s) Q := by
  obtain ⟨s1, s2, s3, s4, s5⟩ := hS i hi
  have s1b : (K (lmB + 2 * i)).1 = 13 := by rw [s1]
  obtain ⟨s6, -⟩ := sB_small ⟨i, hi⟩
  have s6 : (sB i).length < 100 := s6
  refine Ok.enter (F := F_77) (ls := [.ref (lmB + (2 * i + 1)), .int (nI j)]) rfl rfl ?_
  refine wp_iload1 (pc' := 1) rfl rfl ?_
  refine wp_aload0 (pc' := 2) rfl rfl ?_
  refine wp_alen (pc' := 3) rfl (by assumption) rfl rfl rfl ?_
  refine wp_chk (pc' := 6) rfl rfl rfl (nI_pos (by omega)) (nI_lt hj (by omega)) rfl ?_
  refine wp_aload0 (pc' := 7) rfl rfl ?_
  refine wp_iload1 (pc' := 8) rfl rfl ?_
  refine wp_bald j (pc' := 9) rfl s2 rfl hj (by omega) rfl ?_
  rw [s5]
  refine wp_sipush (v := nI 255) (pc' := 12) rfl rfl rfl ?_
  refine wp_iand (pc' := 13) rfl rfl ?_
  refine wp_i2c (pc' := 14) rfl rfl ?_
  refine wp_iret rfl rfl (char_nar (and255 ⟨(sB i).getD j 0, by have := sB_lt hi j; omega⟩) (by have := sB_lt hi j; omega)) ?_
  exact Qv kk (and255 ⟨(sB i).getD j 0, by have := sB_lt hi j; omega⟩) rfl
theorem c_charAt {d : Nat} {K : Nat → Nat × Nat} {I : Nat → Nat → Int32} {L : Nat → Nat → Int64} {R : Nat → Nat → Option Nat} {n s : Nat} {Q : Lo → Lm → Prop} {i j : Nat} (hS : SS K I R) (hi : i < 57) (hj : j < (sB i).length) (kk : Q (.inl (some (.int (nI ((sB i).getD j 0))))) (K, I, L, R, n, s)) : Ok (d + 2) 75 [.ref (lmB + 2 * i), .int (nI j)] (K, I, L, R, n, s) Q := by
  obtain ⟨s1, s2, s3, s4, s5⟩ := hS i hi
  have s1b : (K (lmB + 2 * i)).1 = 13 := by rw [s1]
  obtain ⟨s6, -⟩ := sB_small ⟨i, hi⟩
  have s6 : (sB i).length < 100 := s6
  refine Ok.enter (F := F_75) (ls := [.ref (lmB + 2 * i), .int (nI j)]) rfl rfl ?_
  refine wp_aload0 (pc' := 1) rfl rfl ?_
  refine wp_callV1 (pc' := 4) rfl rfl rfl rfl rfl (by assumption) rfl rfl ?_
  refine c_isLatin1 hS hi ?_
  refine Cont.v ?_
  refine wp_ifeqF (pc' := 7) rfl (by decide) rfl ?_
  refine wp_aload0 (pc' := 8) rfl rfl ?_
  refine wp_getRF (pc' := 11) rfl rfl (by assumption) (by assumption) rfl ?_
  refine wp_iload1 (pc' := 12) rfl rfl ?_
  refine wp_callS2 (pc' := 15) rfl rfl rfl rfl rfl rfl ?_
  refine c_latAt hS hi hj ?_
  refine Cont.v ?_
  refine wp_iret rfl rfl (char_nar rfl (by have := sB_lt hi j; omega)) ?_
  exact kk
