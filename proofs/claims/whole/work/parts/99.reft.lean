/-! THE REFERENCE: words and numbers taken, whatever the memory -/
theorem rf_self {I : Mem} {p b : Nat} (h : I 318 10 = nI p) (g : I 318 12 = nI b) : rfM I p b = I := by unfold rfM; rw [← h, up2_id, ← g, up2_id]
def TkJ (I J : Mem) (p b : Nat) : Prop := (∀ a, a ≠ 318 → J a = I a) ∧ (∀ j, j ≠ 10 → j ≠ 12 → J 318 j = I 318 j) ∧ J 318 10 = nI p ∧ J 318 12 = nI b
theorem tk_rf {I : Mem} {p b : Nat} : TkJ I (rfM I p b) p b := ⟨fun a ha => rf_o ha, fun j h1 h2 => rf_j h1 h2, rf_10, rf_12⟩
theorem tk_rd {I J : Mem} {p b T : Nat} {tv : Nat → Nat} (h : TkJ I J p b) (hR : RfI I T tv) : RfI J T tv := ⟨by rw [h.2.1 11 (by decide) (by decide)]; exact hR.1, hR.2.1, by rw [h.1 324 (by decide)]; exact hR.2.2⟩
theorem tk_ss {K : Nat → Nat × Nat} {R : Nat → Nat → Option Nat} {I J : Mem} {p b : Nat} (h : TkJ I J p b) (hS : SS K I R) : SS K J R := SS_off hS (fun a ha => h.1 a (by unfold lmB at ha; omega))
theorem tk_tr {I J N : Mem} {p b p2 b2 : Nat} (h : TkJ I J p b) (g : TkJ J N p2 b2) : TkJ I N p2 b2 := ⟨fun a ha => (g.1 a ha).trans (h.1 a ha), fun j h1 h2 => (g.2.1 j h1 h2).trans (h.2.1 j h1 h2), g.2.2⟩

theorem m_passesJ {d : Nat} {K : Nat → Nat × Nat} {I : Mem} {L : Nat → Nat → Int64} {R : Nat → Nat → Option Nat} {n s : Nat} {Q : Lo → Lm → Prop} {T p w : Nat} {tv : Nat → Nat} (W : List Nat) (hT : TK K R n) (hR : RfI I T tv) (hp : p ≤ T) (h10 : I 318 10 = nI p) (hS : SS K I R) (hw : w < 57) (hj : sB w = W) (kk : ∀ J, TkJ I J (if wdB tv T (skp tv T p) W = true then (skp tv T p) + letN tv T (skp tv T p) else (skp tv T p)) (skp tv T p) → Q (.inl (some (.int (if wdB tv T (skp tv T p) W = true then nI 1 else nI 0)))) (K, J, L, R, n, s)) : Ok (d + 4) 235 [.ref 318, .ref (lmB + 2 * w)] (K, I, L, R, n, s) Q := by
  obtain ⟨b, hb⟩ := nI_surj (I 318 12)
  have h := m_passes (I := I) (b := b) (K := K) (L := L) (R := R) (n := n) (s := s) (d := d) (Q := Q) W hT hR hp hS hw hj (kk _ tk_rf)
  rw [rf_self h10 hb] at h
  exact h
theorem m_signJ {d : Nat} {K : Nat → Nat × Nat} {I : Mem} {L : Nat → Nat → Int64} {R : Nat → Nat → Option Nat} {n s : Nat} {Q : Lo → Lm → Prop} {T p c : Nat} {tv : Nat → Nat} (hT : TK K R n) (hR : RfI I T tv) (hp : p ≤ T) (h10 : I 318 10 = nI p) (hc : c < 128) (kk : ∀ J, TkJ I J (if sgn tv T (skp tv T p) c then (skp tv T p) + 1 else (skp tv T p)) (skp tv T p) → Q (.inl (some (.int (if sgn tv T (skp tv T p) c then nI 1 else nI 0)))) (K, J, L, R, n, s)) : Ok (d + 3) 247 [.ref 318, .int (nI c)] (K, I, L, R, n, s) Q := by
  obtain ⟨b, hb⟩ := nI_surj (I 318 12)
  have h := m_sign (I := I) (b := b) (K := K) (L := L) (R := R) (n := n) (s := s) (d := d) (Q := Q) hT hR hp hc (kk _ tk_rf)
  rw [rf_self h10 hb] at h
  exact h
theorem m_isNumNextJ {d : Nat} {K : Nat → Nat × Nat} {I : Mem} {L : Nat → Nat → Int64} {R : Nat → Nat → Option Nat} {n s : Nat} {Q : Lo → Lm → Prop} {T p : Nat} {tv : Nat → Nat} (hT : TK K R n) (hR : RfI I T tv) (hp : p ≤ T) (h10 : I 318 10 = nI p) (kk : ∀ J, TkJ I J (skp tv T p) (skp tv T p) → Q (.inl (some (.int (if atDg tv T (skp tv T p) then nI 1 else nI 0)))) (K, J, L, R, n, s)) : Ok (d + 3) 230 [.ref 318] (K, I, L, R, n, s) Q := by
  obtain ⟨b, hb⟩ := nI_surj (I 318 12)
  have h := m_isNumNext (I := I) (b := b) (K := K) (L := L) (R := R) (n := n) (s := s) (d := d) (Q := Q) hT hR hp (kk _ tk_rf)
  rw [rf_self h10 hb] at h
  exact h
theorem m_lettersTJ {d : Nat} {K : Nat → Nat × Nat} {I : Mem} {L : Nat → Nat → Int64} {R : Nat → Nat → Option Nat} {n s : Nat} {Q : Lo → Lm → Prop} {T p : Nat} {tv : Nat → Nat} (hT : TK K R n) (hR : RfI I T tv) (hp : p ≤ T) (h10 : I 318 10 = nI p) (kk : ∀ J, TkJ I J ((skp tv T p) + letN tv T (skp tv T p)) (skp tv T p) → Q (.inl none) (K, J, L, R, n, s)) : Ok (d + 3) 225 [.ref 318] (K, I, L, R, n, s) Q := by
  obtain ⟨b, hb⟩ := nI_surj (I 318 12)
  have h := m_lettersT (I := I) (b := b) (K := K) (L := L) (R := R) (n := n) (s := s) (d := d) (Q := Q) hT hR hp (kk _ tk_rf)
  rw [rf_self h10 hb] at h
  exact h
theorem m_blanksTJ {d : Nat} {K : Nat → Nat × Nat} {I : Mem} {L : Nat → Nat → Int64} {R : Nat → Nat → Option Nat} {n s : Nat} {Q : Lo → Lm → Prop} {T p : Nat} {tv : Nat → Nat} (hT : TK K R n) (hR : RfI I T tv) (hp : p ≤ T) (h10 : I 318 10 = nI p) (kk : ∀ J, TkJ I J (skp tv T p) (skp tv T p) → Q (.inl none) (K, J, L, R, n, s)) : Ok (d + 2) 222 [.ref 318] (K, I, L, R, n, s) Q := by
  obtain ⟨b, hb⟩ := nI_surj (I 318 12)
  have h := m_blanksT (I := I) (b := b) (K := K) (L := L) (R := R) (n := n) (s := s) (d := d) (Q := Q) hT hR hp (kk _ tk_rf)
  rw [rf_self h10 hb] at h
  exact h
theorem m_numberJ {d : Nat} {K : Nat → Nat × Nat} {I : Mem} {L : Nat → Nat → Int64} {R : Nat → Nat → Option Nat} {n s : Nat} {Q : Lo → Lm → Prop} {T p : Nat} {tv : Nat → Nat} {lw up : Int32} (hT : TK K R n) (hR : RfI I T tv) (hp : p ≤ T) (h10 : I 318 10 = nI p) (kk : ∀ J e, NuE tv T (skp tv T p) (numR tv T (skp tv T p) lw up) e → TkJ I J e (skp tv T p) → Q (.inl (some (.int (numV (numR tv T (skp tv T p) lw up))))) (K, J, L, R, n, s)) : Ok (d + 3) 229 [.ref 318, .int lw, .int up] (K, I, L, R, n, s) Q := by
  obtain ⟨b, hb⟩ := nI_surj (I 318 12)
  have h := m_number (I := I) (b := b) (K := K) (L := L) (R := R) (n := n) (s := s) (d := d) (Q := Q) (lw := lw) (up := up) hT hR hp (fun e he => kk _ e he tk_rf)
  rw [rf_self h10 hb] at h
  exact h
theorem m_isWordJ {d : Nat} {K : Nat → Nat × Nat} {I : Mem} {L : Nat → Nat → Int64} {R : Nat → Nat → Option Nat} {n s : Nat} {Q : Lo → Lm → Prop} {T p b w : Nat} {tv : Nat → Nat} (W : List Nat) (hT : TK K R n) (hR : RfI I T tv) (h10 : I 318 10 = nI p) (h12 : I 318 12 = nI b) (hS : SS K I R) (hw : w < 57) (hj : sB w = W) (hb : b ≤ p) (hp : p ≤ T) (kk : Q (.inl (some (.int (if wbB tv b p W = true then nI 1 else nI 0)))) (K, I, L, R, n, s)) : Ok (d + 3) 227 [.ref 318, .ref (lmB + 2 * w)] (K, I, L, R, n, s) Q := by
  have h := m_isWord (I := I) (b := b) (p := p) (K := K) (L := L) (R := R) (n := n) (s := s) (d := d) (Q := Q) W hT hR hS hw hj hb hp (by rw [rf_self h10 h12]; exact kk)
  rw [rf_self h10 h12] at h
  exact h
theorem num_neg {tv : Nat → Nat} {T p : Nat} {lw up : Int32} (hp : p ≤ T) (h : numV (numR tv T p lw up) < nI 0) : numR tv T p lw up = none := by
  apply num_none hp
  apply Classical.byContradiction
  intro q
  obtain ⟨v, z, e, hv, -⟩ := num_some hp q
  rw [e] at h
  exact absurd h (nI_pos (show v < 2 ^ 31 by omega))
theorem num_pos {tv : Nat → Nat} {T p : Nat} {lw up : Int32} (hp : p ≤ T) (h : ¬ numV (numR tv T p lw up) < nI 0) : ∃ v q, numR tv T p lw up = some (v, q) ∧ v < 10000 ∧ ¬ nI v < lw ∧ ¬ up < nI v ∧ p ≤ q ∧ q ≤ T := num_some hp (fun q => h (by rw [q]; decide))
/-- what a reader of the bog's text leaves -/
def RdJ (T : Nat) (tv : Nat → Nat) (I : Mem) (r : Bool × (Nat → Int32) × Nat) (J : Mem) : Prop := (∀ a, a ≠ 318 → a ≠ 319 → J a = I a) ∧ (∀ j, j ≠ 10 → j ≠ 12 → J 318 j = I 318 j) ∧ (r.1 = true → J 319 = r.2.1 ∧ ∃ p, p ≤ T ∧ J 318 10 = nI p ∧ skp tv T p = r.2.2) ∧ (r.1 = false → J 318 12 = nI r.2.2)
theorem rd_f {T : Nat} {tv : Nat → Nat} {I J : Mem} {p b : Nat} {w : Nat → Int32} (h : TkJ I J p b) : RdJ T tv I (false, w, b) J := ⟨fun a h1 _ => h.1 a h1, h.2.1, fun q => absurd (show false = true from q) (by decide), fun _ => h.2.2.2⟩
theorem rd_t {T : Nat} {tv : Nat → Nat} {I J : Mem} {p b z : Nat} {w : Nat → Int32} (h : TkJ I J p b) (hw : I 319 = w) (hp : p ≤ T) (hz : skp tv T p = z) : RdJ T tv I (true, w, z) J := ⟨fun a h1 _ => h.1 a h1, h.2.1, fun _ => ⟨(h.1 319 (by decide)).trans hw, p, hp, h.2.2.1, hz⟩, fun q => absurd (show true = false from q) (by decide)⟩
/-- the world written to after that -/
theorem rd_w {T : Nat} {tv : Nat → Nat} {I J : Mem} {p b z : Nat} {w : Nat → Int32} (h : TkJ I J p b) (hp : p ≤ T) (hz : skp tv T p = z) : RdJ T tv I (true, w, z) (upr J 319 w) := ⟨fun a h1 h2 => (upr_ne h2).trans (h.1 a h1), fun j h1 h2 => by rw [upr_ne (by decide)]; exact h.2.1 j h1 h2, fun _ => ⟨upr_same, p, hp, by rw [upr_ne (by decide)]; exact h.2.2.1, hz⟩, fun q => absurd (show true = false from q) (by decide)⟩
theorem nu_ok {tv : Nat → Nat} {T q v z e : Nat} {r : Option (Nat × Nat)} (h : NuE tv T q r e) (hr : r = some (v, z)) : e ≤ T ∧ skp tv T e = z := ⟨h.2.1, (h.2.2 v z hr).symm⟩
def wlNum (tv : Nat → Nat) (T k hi : Nat) (w : Nat → Int32) (q : Nat) : Bool × (Nat → Int32) × Nat := match numR tv T q (nI 0) (nI hi) with
  | none => (false, w, q)
  | some x => (true, up1 w k (nI x.1), x.2)
theorem wlNum_n {tv : Nat → Nat} {T k hi q : Nat} {w : Nat → Int32} (h : numR tv T q (nI 0) (nI hi) = none) : wlNum tv T k hi w q = (false, w, q) := by unfold wlNum; rw [h]
theorem wlNum_s {tv : Nat → Nat} {T k hi q v z : Nat} {w : Nat → Int32} (h : numR tv T q (nI 0) (nI hi) = some (v, z)) : wlNum tv T k hi w q = (true, up1 w k (nI v), z) := by unfold wlNum; rw [h]

theorem up1_same0 {f : Mem} {a k : Nat} : f a = up1 (f a) k (f a k) := by
  funext j
  unfold up1
  split
  · rename_i e; rw [e]
  · rfl

theorem m_readNumber {d : Nat} {K : Nat → Nat × Nat} {I : Nat → Nat → Int32} {L : Nat → Nat → Int64} {R : Nat → Nat → Option Nat} {n s : Nat} {Q : Lo → Lm → Prop} {T p k hi : Nat} {tv : Nat → Nat} (hT : TK K R n) (hR : RfI I T tv) (hp : p ≤ T) (h10 : I 318 10 = nI p) (hk : k < 483) (kk : ∀ r J, wlNum tv T k hi (I 319) (skp tv T p) = r → RdJ T tv I r J → Q (.inl (some (.int (if r.1 = true then nI 1 else nI 0)))) (K, J, L, R, n, s)) : Ok (d + 4) 241 [.ref 318, .int (nI k), .int (nI 0), .int (nI hi)] (K, I, L, R, n, s) Q := by
  obtain ⟨-, -, hn⟩ := id hT
  refine Ok.enter (F := F_241) (ls := [.ref 318, .int (nI k), .int (nI 0), .int (nI hi), lDead]) rfl rfl ?_
  refine wp_aload0 (pc' := 1) rfl rfl ?_
  refine wp_iload2 (pc' := 2) rfl rfl ?_
  refine wp_iload3 (pc' := 3) rfl rfl ?_
  refine wp_callV3 (pc' := 6) rfl rfl rfl rfl rfl (by first | exact TK.k1 hT rfl | exact TK.kk hT rfl | exact TK.r hT rfl | assumption) rfl rfl ?_
  refine m_numberJ hT hR hp h10 (fun J e hE hJ => ?_)
  obtain ⟨q, hq⟩ : ∃ q, skp tv T p = q := ⟨_, rfl⟩
  have hqT := (skp_ge (tv := tv) hp).2
  rw [hq] at hE hJ hqT ⊢ kk
  refine Cont.v ?_
  refine wp_istore4 (pc' := 8) rfl (by first | rfl | assumption) rfl ?_
  refine wp_aload0 (pc' := 9) rfl rfl ?_
  refine wp_getRF (pc' := 12) rfl rfl (by first | exact TK.k1 hT rfl | exact TK.kk hT rfl | exact TK.r hT rfl | assumption) (by first | exact TK.k1 hT rfl | exact TK.kk hT rfl | exact TK.r hT rfl | assumption) rfl ?_
  refine wp_iload1 (pc' := 13) rfl rfl ?_
  refine wp_iload4 (pc' := 15) rfl rfl ?_
  refine wp_ifge (pc' := 18) rfl rfl ?_ ?_
  · intro h15
    skip
    refine wp_iload4 (pc' := 29) rfl rfl ?_
    refine wp_iast _ (pc' := 30) rfl (by first | exact TK.k1 hT rfl | exact TK.kk hT rfl | exact TK.r hT rfl | assumption) (by omega) (by with_reducible rfl) (by omega) (by first | decide | assumption | omega) rfl ?_
    refine wp_iload4 (pc' := 32) rfl rfl ?_
    refine wp_iflt (pc' := 35) rfl rfl ?_ ?_
    · intro h32
      refine wp_iconst (v := nI 0) (pc' := 40) rfl rfl rfl ?_
      refine wp_iret rfl rfl (by first | rfl | exact nar_if) ?_
      first | exact absurd h15 h32 | exact absurd h32 h15 | (have hN := num_neg hqT h32; refine Qv (kk _ _ (wlNum_n hN) ?_) rfl rfl; rw [up2_as, upr_id2 up1_same0]; exact rd_f hJ) | (obtain ⟨v, z, hN, hv, -⟩ := num_pos hqT h32; rw [hN]; refine Qv (kk _ _ (wlNum_s hN) ?_) rfl rfl; rw [up2_as, hJ.1 319 (by decide)]; exact rd_w hJ (nu_ok hE hN).1 (nu_ok hE hN).2)
    · intro h32
      refine wp_iconst (v := nI 1) (pc' := 36) rfl rfl rfl ?_
      refine wp_goto rfl ?_
      refine wp_iret rfl rfl (by first | rfl | exact nar_if) ?_
      first | exact absurd h15 h32 | exact absurd h32 h15 | (have hN := num_neg hqT h32; refine Qv (kk _ _ (wlNum_n hN) ?_) rfl rfl; rw [up2_as, upr_id2 up1_same0]; exact rd_f hJ) | (obtain ⟨v, z, hN, hv, -⟩ := num_pos hqT h32; rw [hN]; refine Qv (kk _ _ (wlNum_s hN) ?_) rfl rfl; rw [up2_as, hJ.1 319 (by decide)]; exact rd_w hJ (nu_ok hE hN).1 (nu_ok hE hN).2)
  · intro h15
    skip
    refine wp_aload0 (pc' := 19) rfl rfl ?_
    refine wp_getRF (pc' := 22) rfl rfl (by first | exact TK.k1 hT rfl | exact TK.kk hT rfl | exact TK.r hT rfl | assumption) (by first | exact TK.k1 hT rfl | exact TK.kk hT rfl | exact TK.r hT rfl | assumption) rfl ?_
    refine wp_iload1 (pc' := 23) rfl rfl ?_
    refine wp_iald _ (pc' := 24) rfl (by first | exact TK.k1 hT rfl | exact TK.kk hT rfl | exact TK.r hT rfl | assumption) (by with_reducible rfl) (by omega) (by first | decide | assumption | omega) rfl ?_
    refine wp_goto rfl ?_
    refine wp_iast _ (pc' := 30) rfl (by first | exact TK.k1 hT rfl | exact TK.kk hT rfl | exact TK.r hT rfl | assumption) (by omega) (by with_reducible rfl) (by omega) (by first | decide | assumption | omega) rfl ?_
    refine wp_iload4 (pc' := 32) rfl rfl ?_
    refine wp_iflt (pc' := 35) rfl rfl ?_ ?_
    · intro h32
      refine wp_iconst (v := nI 0) (pc' := 40) rfl rfl rfl ?_
      refine wp_iret rfl rfl (by first | rfl | exact nar_if) ?_
      first | exact absurd h15 h32 | exact absurd h32 h15 | (have hN := num_neg hqT h32; refine Qv (kk _ _ (wlNum_n hN) ?_) rfl rfl; rw [up2_as, upr_id2 up1_same0]; exact rd_f hJ) | (obtain ⟨v, z, hN, hv, -⟩ := num_pos hqT h32; rw [hN]; refine Qv (kk _ _ (wlNum_s hN) ?_) rfl rfl; rw [up2_as, hJ.1 319 (by decide)]; exact rd_w hJ (nu_ok hE hN).1 (nu_ok hE hN).2)
    · intro h32
      refine wp_iconst (v := nI 1) (pc' := 36) rfl rfl rfl ?_
      refine wp_goto rfl ?_
      refine wp_iret rfl rfl (by first | rfl | exact nar_if) ?_
      first | exact absurd h15 h32 | exact absurd h32 h15 | (have hN := num_neg hqT h32; refine Qv (kk _ _ (wlNum_n hN) ?_) rfl rfl; rw [up2_as, upr_id2 up1_same0]; exact rd_f hJ) | (obtain ⟨v, z, hN, hv, -⟩ := num_pos hqT h32; rw [hN]; refine Qv (kk _ _ (wlNum_s hN) ?_) rfl rfl; rw [up2_as, hJ.1 319 (by decide)]; exact rd_w hJ (nu_ok hE hN).1 (nu_ok hE hN).2)
