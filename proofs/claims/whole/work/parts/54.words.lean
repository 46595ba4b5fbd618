/-! WORDS -/
def scS (tv : Nat → Nat) (P sz c : Nat) (s : Int32) : Int32 := if ¬ s < nI 0 ∧ s < nI sz ∧ tv (P + tn s) = c then s + nI 1 else -1
def scn (tv : Nat → Nat) (P sz : Nat) : List Nat → Nat → Int32 → Option Nat
  | [], k, s => if s = nI sz ∧ 0 < sz then some k else none
  | c :: r, k, s => if c = 32 then (if s = nI sz ∧ 0 < sz then some k else scn tv P sz r (k + 1) (nI 0)) else scn tv P sz r k (scS tv P sz c s)
def scX (tv : Nat → Nat) (P sz : Nat) (W : List Nat) (i k : Nat) (s : Int32) : Option Nat := if i ≤ W.length then scn tv P sz (W.drop i) k s else none
theorem drop_getD {W : List Nat} {i : Nat} (h : i < W.length) : W.drop i = W.getD i 0 :: W.drop (i + 1) := by
  rw [List.getD_eq_getElem?_getD, List.getElem?_eq_getElem h]
  exact List.drop_eq_getElem_cons h
theorem scX_c {tv : Nat → Nat} {P sz : Nat} {W : List Nat} {i k : Nat} {s : Int32} {X : Option Nat} (h : i < W.length) (hc : ¬ W.getD i 0 = 32) (e : scX tv P sz W i k s = X) : scX tv P sz W (i + 1) k (scS tv P sz (W.getD i 0) s) = X := by
  unfold scX at e ⊢
  rw [if_pos (by omega), drop_getD h, scn, if_neg hc] at e
  rw [if_pos (by omega)]; exact e
theorem scX_y {tv : Nat → Nat} {P sz : Nat} {W : List Nat} {i k : Nat} {s : Int32} {X : Option Nat} (hi : i ≤ W.length) (hc : i = W.length ∨ W.getD i 0 = 32) (h1 : s = nI sz) (h2 : 0 < sz) (e : scX tv P sz W i k s = X) : X = some k := by
  unfold scX at e
  rw [if_pos hi] at e
  rcases hc with hc | hc
  · rw [hc, List.drop_length, scn, if_pos ⟨h1, h2⟩] at e; exact e.symm
  · by_cases hl : i < W.length
    · rw [drop_getD hl, scn, if_pos hc, if_pos ⟨h1, h2⟩] at e; exact e.symm
    · rw [show i = W.length by omega, List.drop_length, scn, if_pos ⟨h1, h2⟩] at e; exact e.symm
theorem scX_n {tv : Nat → Nat} {P sz : Nat} {W : List Nat} {i k : Nat} {s : Int32} {X : Option Nat} (hi : i ≤ W.length) (hc : i = W.length ∨ W.getD i 0 = 32) (h1 : ¬ (s = nI sz ∧ 0 < sz)) (e : scX tv P sz W i k s = X) : scX tv P sz W (i + 1) (k + 1) (nI 0) = X := by
  unfold scX at e ⊢
  rw [if_pos hi] at e
  by_cases hl : i < W.length
  · rw [if_pos (by omega)]
    have hc := hc.resolve_left (by omega)
    rw [drop_getD hl, scn, if_pos hc, if_neg h1] at e; exact e
  · rw [if_neg (by omega)]
    rw [show i = W.length by omega, List.drop_length, scn, if_neg h1] at e; exact e
theorem scX_e {tv : Nat → Nat} {P sz : Nat} {W : List Nat} {i k : Nat} {s : Int32} {X : Option Nat} (hi : i = W.length + 1) (e : scX tv P sz W i k s = X) : X = none := by
  unfold scX at e
  rw [if_neg (by omega)] at e; exact e.symm
theorem SS_off {K : Nat → Nat × Nat} {I J : Mem} {R : Nat → Nat → Option Nat} (h : SS K I R) (e : ∀ a, lmB ≤ a → J a = I a) : SS K J R := fun i hi => by
  obtain ⟨s1, s2, s3, s4, s5⟩ := h i hi
  exact ⟨s1, s2, s3, fun j => by rw [e _ (by omega)]; exact s4 j, fun j => by rw [e _ (by omega)]; exact s5 j⟩
theorem SS_rd {K : Nat → Nat × Nat} {I : Mem} {R : Nat → Nat → Option Nat} {p : Nat} (h : SS K I R) : SS K (rdM I p) R := SS_off h (fun a ha => rdM_o (by unfold lmB at ha; omega))
/-! words put together with blanks -/
def joinW : List (List Nat) → List Nat
  | [] => []
  | [w] => w
  | w :: v :: r => w ++ 32 :: joinW (v :: r)
def eqW (tv : Nat → Nat) : Nat → List Nat → Bool
  | _, [] => true
  | p, c :: r => decide (tv p = c) && eqW tv (p + 1) r
def isW (tv : Nat → Nat) (P sz : Nat) (w : List Nat) : Prop := sz = w.length ∧ eqW tv P w = true
def pickW (tv : Nat → Nat) (P sz : Nat) : List (List Nat) → Nat → Option Nat
  | [], _ => none
  | w :: r, k => if sz = w.length ∧ eqW tv P w = true then some k else pickW tv P sz r (k + 1)
theorem scS_m {tv : Nat → Nat} {P sz c : Nat} : scS tv P sz c (-1) = -1 := by
  unfold scS; rw [if_neg (fun h => h.1 (by decide))]
theorem scn_m {tv : Nat → Nat} {P sz : Nat} {rest : List Nat} {k : Nat} : ∀ (w : List Nat), (∀ c ∈ w, c ≠ 32) → scn tv P sz (w ++ rest) k (-1) = scn tv P sz rest k (-1)
  | [], _ => rfl
  | c :: w, h => by
    rw [List.cons_append, scn, if_neg (h c List.mem_cons_self), scS_m]
    exact scn_m w (fun x hx => h x (List.mem_cons_of_mem _ hx))
theorem scn_w {tv : Nat → Nat} {P sz : Nat} {rest : List Nat} {k : Nat} (hz : sz < 1000) : ∀ (w : List Nat) (j : Nat), j ≤ sz → (∀ c ∈ w, c ≠ 32) → scn tv P sz (w ++ rest) k (nI j) = scn tv P sz rest k (if j + w.length ≤ sz ∧ eqW tv (P + j) w = true then nI (j + w.length) else -1)
  | [], j, hj, _ => by rw [if_pos ⟨by simpa using hj, rfl⟩]; rfl
  | c :: w, j, hj, h => by
    rw [List.cons_append, scn, if_neg (h c List.mem_cons_self)]
    have hw : ∀ x ∈ w, x ≠ 32 := fun x hx => h x (List.mem_cons_of_mem _ hx)
    by_cases e : j < sz ∧ tv (P + j) = c
    · have : scS tv P sz c (nI j) = nI (j + 1) := by
        unfold scS
        rw [if_pos ⟨nI_pos (by omega), nI_lt e.1 (by omega), by rw [tn_nI (by omega)]; exact e.2⟩, nI_add]
      rw [this, scn_w hz w (j + 1) (by omega) hw]
      have q : eqW tv (P + j) (c :: w) = eqW tv (P + (j + 1)) w := by
        show (decide (tv (P + j) = c) && eqW tv (P + j + 1) w) = _
        rw [decide_eq_true e.2, Bool.true_and]; rfl
      rw [q, List.length_cons, show j + 1 + w.length = j + (w.length + 1) by omega]
    · have : scS tv P sz c (nI j) = -1 := by
        unfold scS
        rw [if_neg (fun q => e ⟨(nI_ltI (by omega) (by omega)).mp q.2.1, by rw [← q.2.2, tn_nI (by omega)]⟩)]
      rw [this, scn_m w hw, if_neg]
      rintro ⟨q1, q2⟩
      have q3 : (decide (tv (P + j) = c) && eqW tv (P + j + 1) w) = true := q2
      exact e ⟨by rw [List.length_cons] at q1; omega, of_decide_eq_true (Bool.and_eq_true_iff.mp q3).1⟩
theorem scn_end {tv : Nat → Nat} {P sz : Nat} {w : List Nat} (hz : sz < 1000) (hw : w ≠ []) : ((if 0 + w.length ≤ sz ∧ eqW tv (P + 0) w = true then nI (0 + w.length) else -1) = nI sz ∧ 0 < sz) ↔ (sz = w.length ∧ eqW tv P w = true) := by
  have hl : 0 < w.length := List.length_pos_iff.mpr hw
  rw [Nat.zero_add, Nat.add_zero]
  constructor
  · rintro ⟨h1, h2⟩
    by_cases e : w.length ≤ sz ∧ eqW tv P w = true
    · rw [if_pos e] at h1
      exact ⟨((nI_eq (by omega) (by omega)).mp h1).symm, e.2⟩
    · rw [if_neg e] at h1
      exact absurd h1.symm (nI_nm1 (by omega))
  · rintro ⟨h1, h2⟩
    rw [if_pos ⟨by omega, h2⟩, h1]; exact ⟨rfl, by omega⟩
theorem scn_pick {tv : Nat → Nat} {P sz : Nat} (hz : sz < 1000) : ∀ (Ws : List (List Nat)) (k : Nat), (∀ w ∈ Ws, w ≠ [] ∧ ∀ c ∈ w, c ≠ 32) → Ws ≠ [] → scn tv P sz (joinW Ws) k (nI 0) = pickW tv P sz Ws k
  | [], _, _, h => absurd rfl h
  | [w], k, h, _ => by
    obtain ⟨h1, h2⟩ := h w List.mem_cons_self
    show scn tv P sz w k (nI 0) = _
    rw [← List.append_nil w, scn_w hz w 0 (Nat.zero_le _) h2, List.append_nil]
    unfold scn pickW pickW
    by_cases e : sz = w.length ∧ eqW tv P w = true
    · rw [if_pos ((scn_end hz h1).mpr e), if_pos e]
    · rw [if_neg (fun q => e ((scn_end hz h1).mp q)), if_neg e]
  | w :: v :: r, k, h, _ => by
    obtain ⟨h1, h2⟩ := h w List.mem_cons_self
    show scn tv P sz (w ++ 32 :: joinW (v :: r)) k (nI 0) = _
    rw [scn_w hz w 0 (Nat.zero_le _) h2, scn, if_pos rfl, pickW]
    by_cases e : sz = w.length ∧ eqW tv P w = true
    · rw [if_pos ((scn_end hz h1).mpr e), if_pos e]
    · rw [if_neg (fun q => e ((scn_end hz h1).mp q)), if_neg e]
      exact scn_pick hz (v :: r) (k + 1) (fun x hx => h x (List.mem_cons_of_mem _ hx)) (by simp)

theorem c_oneOf {d : Nat} {K : Nat → Nat × Nat} {I : Nat → Nat → Int32} {L : Nat → Nat → Int64} {R : Nat → Nat → Option Nat} {n s : Nat} {Q : Lo → Lm → Prop} {T p : Nat} {tv : Nat → Nat} {w : Nat} (hT : TK K R n) (hR : RdI I T tv) (hS : SS K I R) (hw : w < 57) (hp : p ≤ T) (kk0 : scX tv p (letN tv T p) (sB w) 0 0 (nI 0) = none → Q (.inl (some (.int (-1)))) (K, rdM I (p), L, R, n, s)) (kk : ∀ k, scX tv p (letN tv T p) (sB w) 0 0 (nI 0) = some k → Q (.inl (some (.int (nI k)))) (K, rdM I (skp tv T (p + letN tv T p)), L, R, n, s)) : Ok (d + 4) 72 [.ref 39, .ref (lmB + 2 * w)] (K, rdM I (p), L, R, n, s) Q := by
  obtain ⟨-, -, hn⟩ := id hT
  obtain ⟨hL, hT4, htv, htl⟩ := id hR
  have s1b : (K (lmB + 2 * w)).1 = 13 := by rw [(hS w hw).1]
  refine Ok.enter (F := F_72) (ls := [.ref 39, .ref (lmB + 2 * w), lDead, lDead, lDead, lDead, lDead]) rfl rfl ?_
  refine wp_iconst (v := nI 0) (pc' := 1) rfl rfl rfl ?_
  refine wp_istore2 (pc' := 2) rfl (by first | rfl | assumption) rfl ?_
  have lp2 : ∀ r (i : Nat) (v3 : Value) (v4 : Value) (v5 : Value) (v6 : Value), i + r = T - p → i + letN tv T (p + i) = letN tv T p → isL v3 = false → isL v4 = false → isL v5 = false → isL v6 = false → WP (d + 3) F_72 2 [.ref 39, .ref (lmB + 2 * w), .int (nI i), v3, v4, v5, v6] [] (K, rdM I (p), L, R, n, s) Q := by
    intro r; induction r with
    | zero =>
      intro i v3 v4 v5 v6 hi hv0 hv1 hv2 hv3 hv4
      refine wp_aload0 (pc' := 3) rfl rfl ?_
      refine wp_getI (pc' := 6) rfl rfl (by first | exact TK.k1 hT rfl | exact TK.kk hT rfl | exact TK.r hT rfl | assumption) rfl ?_
      rw [rdM_2]
      refine wp_iload2 (pc' := 7) rfl rfl ?_
      first | refine wp_iaddN (pc' := 8) rfl (by with_reducible rfl) (by with_reducible rfl) rfl ?_ | refine wp_iadd (pc' := 8) rfl rfl ?_
      refine wp_aload0 (pc' := 9) rfl rfl ?_
      refine wp_getI (pc' := 12) rfl rfl (by first | exact TK.k1 hT rfl | exact TK.kk hT rfl | exact TK.r hT rfl | assumption) rfl ?_
      rw [rdM_1, hL]
      refine wp_icmpgeT rfl (nI_nlt (by omega) (by omega)) ?_
      have hl0 : letN tv T (p + i) = 0 := by
        first | exact letN_T (ge_nI h12 (by omega)) | exact letN_n hpi (fun e => by have := lt_nI h28 (by omega) (by decide); omega) | exact letN_n hpi (fun e => by have := lt_nI h44 (by decide) (by omega); omega) | exact letN_T (by omega)
      have hsz : i = letN tv T p := by omega
      have hszl := letN_le (tv := tv) (T := T) (p := p)
      obtain ⟨sl1, sl2⟩ := sB_small ⟨w, hw⟩
      have sl1 : (sB w).length < 100 := sl1
      refine wp_iconst (v := nI 0) (pc' := 54) rfl rfl rfl ?_
      refine wp_istore3 (pc' := 55) rfl (by first | rfl | assumption) rfl ?_
      refine wp_iconst (v := nI 0) (pc' := 56) rfl rfl rfl ?_
      refine wp_istore4 (pc' := 58) rfl (by first | rfl | assumption) rfl ?_
      refine wp_iconst (v := nI 0) (pc' := 59) rfl rfl rfl ?_
      refine wp_istore5 (pc' := 61) rfl (by first | rfl | assumption) rfl ?_
      have lp61 : ∀ rb (j : Nat) (k : Nat) (u : Int32) (v6 : Value), j + rb = (sB w).length + 1 → scX tv p (letN tv T p) (sB w) j k u = scX tv p (letN tv T p) (sB w) 0 0 (nI 0) → isL v6 = false → WP (d + 3) F_72 61 [.ref 39, .ref (lmB + 2 * w), .int (nI i), .int (nI k), .int u, .int (nI j), v6] [] (K, rdM I (p), L, R, n, s) Q := by
        intro rb; induction rb with
        | zero =>
          intro j k u v6 hib hvb0 hvb1
          refine wp_iload5 (pc' := 63) rfl rfl ?_
          refine wp_aload1 (pc' := 64) rfl rfl ?_
          refine wp_callV1 (pc' := 67) rfl rfl rfl rfl rfl (by first | exact TK.k1 hT rfl | exact TK.kk hT rfl | exact TK.r hT rfl | assumption) rfl rfl ?_
          refine c_strlen (SS_rd hS) hw ?_
          refine Cont.v ?_
          refine wp_icmpgtT rfl (nI_lt (by omega) (by omega)) ?_
          refine wp_iconst (v := (-1)) (pc' := 175) rfl rfl rfl ?_
          refine wp_iret rfl rfl rfl ?_
          exact kk0 (scX_e (by omega) hvb0)
        | succ rb ihb =>
          intro j k u v6 hib hvb0 hvb1
          refine wp_iload5 (pc' := 63) rfl rfl ?_
          refine wp_aload1 (pc' := 64) rfl rfl ?_
          refine wp_callV1 (pc' := 67) rfl rfl rfl rfl rfl (by first | exact TK.k1 hT rfl | exact TK.kk hT rfl | exact TK.r hT rfl | assumption) rfl rfl ?_
          refine c_strlen (SS_rd hS) hw ?_
          refine Cont.v ?_
          refine wp_icmpgtF (pc' := 70) rfl (nI_nlt (by omega) (by omega)) rfl ?_
          refine wp_iload5 (pc' := 72) rfl rfl ?_
          refine wp_aload1 (pc' := 73) rfl rfl ?_
          refine wp_callV1 (pc' := 76) rfl rfl rfl rfl rfl (by first | exact TK.k1 hT rfl | exact TK.kk hT rfl | exact TK.r hT rfl | assumption) rfl rfl ?_
          refine c_strlen (SS_rd hS) hw ?_
          refine Cont.v ?_
          refine wp_icmpge (pc' := 79) rfl rfl ?_ ?_
          · intro h76
            refine wp_bipush (v := nI 32) (pc' := 90) rfl rfl rfl ?_
            refine wp_istore6 (pc' := 92) rfl (by first | rfl | assumption) rfl ?_
            refine wp_iload6 (pc' := 94) rfl rfl ?_
            refine wp_bipush (v := nI 32) (pc' := 96) rfl rfl rfl ?_
            refine wp_icmpeqT rfl rfl ?_
            have hc3 : j = (sB w).length ∨ (sB w).getD j 0 = 32 := by
              first | exact Or.inl (by have := ge_nI h76 (by omega); omega) | exact Or.inr (eq_nI h96 (by have := sB_lt hw j; omega) (by decide))
            refine wp_iload4 (pc' := 142) rfl rfl ?_
            refine wp_iload2 (pc' := 143) rfl rfl ?_
            refine wp_icmpne (pc' := 146) rfl rfl ?_ ?_
            · intro h143
              first | refine wp_iinc3 (w := nI 1) (pc' := 165) rfl rfl rfl (by with_reducible exact nI_add _ _) rfl ?_ | refine wp_iinc3 (w := nI 1) (pc' := 165) rfl rfl rfl rfl rfl ?_
              refine wp_iconst (v := nI 0) (pc' := 166) rfl rfl rfl ?_
              refine wp_istore4 (pc' := 168) rfl (by first | rfl | assumption) rfl ?_
              first | refine wp_iinc5 (w := nI 1) (pc' := 171) rfl rfl rfl (by with_reducible exact nI_add _ _) rfl ?_ | refine wp_iinc5 (w := nI 1) (pc' := 171) rfl rfl rfl rfl rfl ?_
              refine wp_goto rfl ?_
              first | exact WP.cg (ihb (j + 1) k _ _ (by omega) (scX_c hjl hc2 hvb0) (by first | rfl | assumption)) (lC1 (lC1 (lC1 (lC1 (lI1 (by unfold scS; rw [← hsz]; first | (rw [if_pos ⟨h101, h107, by rw [tn_nI (by omega)]; exact eq_nI h124 (by omega) (by omega)⟩]; first | done | exact nI_add _ _ | exact (nI_add _ _).symm) | rw [if_neg (fun q => h124 (by rw [← q.2.2, tn_nI (by omega)]))] | rw [if_neg (fun q => h107 q.2.1)] | rw [if_neg (fun q => q.1 h101)]) rfl))))) rfl rfl | exact WP.cg (ihb (j + 1) (k + 1) (nI 0) _ (by omega) (scX_n (by omega) hc3 (fun q => by first | exact h143 (by rw [q.1, hsz]) | exact h147 (nI_lt (by rw [hsz]; exact q.2) (by omega))) hvb0) (by first | rfl | assumption)) rfl rfl rfl
            · intro h143
              refine wp_iload2 (pc' := 147) rfl rfl ?_
              refine wp_ifle (pc' := 150) rfl rfl ?_ ?_
              · intro h147
                first | refine wp_iinc3 (w := nI 1) (pc' := 165) rfl rfl rfl (by with_reducible exact nI_add _ _) rfl ?_ | refine wp_iinc3 (w := nI 1) (pc' := 165) rfl rfl rfl rfl rfl ?_
                refine wp_iconst (v := nI 0) (pc' := 166) rfl rfl rfl ?_
                refine wp_istore4 (pc' := 168) rfl (by first | rfl | assumption) rfl ?_
                first | refine wp_iinc5 (w := nI 1) (pc' := 171) rfl rfl rfl (by with_reducible exact nI_add _ _) rfl ?_ | refine wp_iinc5 (w := nI 1) (pc' := 171) rfl rfl rfl rfl rfl ?_
                refine wp_goto rfl ?_
                first | exact WP.cg (ihb (j + 1) k _ _ (by omega) (scX_c hjl hc2 hvb0) (by first | rfl | assumption)) (lC1 (lC1 (lC1 (lC1 (lI1 (by unfold scS; rw [← hsz]; first | (rw [if_pos ⟨h101, h107, by rw [tn_nI (by omega)]; exact eq_nI h124 (by omega) (by omega)⟩]; first | done | exact nI_add _ _ | exact (nI_add _ _).symm) | rw [if_neg (fun q => h124 (by rw [← q.2.2, tn_nI (by omega)]))] | rw [if_neg (fun q => h107 q.2.1)] | rw [if_neg (fun q => q.1 h101)]) rfl))))) rfl rfl | exact WP.cg (ihb (j + 1) (k + 1) (nI 0) _ (by omega) (scX_n (by omega) hc3 (fun q => by first | exact h143 (by rw [q.1, hsz]) | exact h147 (nI_lt (by rw [hsz]; exact q.2) (by omega))) hvb0) (by first | rfl | assumption)) rfl rfl rfl
              · intro h147
                have hz0 : 0 < i := lt_nI h147 (by decide) (by omega)
                have hX := scX_y (by omega) hc3 (by rw [← hsz]; exact h143) (by omega) hvb0
                refine wp_aload0 (pc' := 151) rfl rfl ?_
                refine wp_aload0 (pc' := 152) rfl rfl ?_
                refine wp_getI (pc' := 155) rfl rfl (by first | exact TK.k1 hT rfl | exact TK.kk hT rfl | exact TK.r hT rfl | assumption) rfl ?_
                rw [rdM_2]
                refine wp_iload2 (pc' := 156) rfl rfl ?_
                first | refine wp_iaddN (pc' := 157) rfl (by with_reducible rfl) (by with_reducible rfl) rfl ?_ | refine wp_iadd (pc' := 157) rfl rfl ?_
                refine wp_callV2 (pc' := 160) rfl rfl rfl rfl rfl (by first | exact TK.k1 hT rfl | exact TK.kk hT rfl | exact TK.r hT rfl | assumption) rfl rfl ?_
                refine c_goOn hT hR (by omega) ?_
                refine Cont.u ?_
                refine wp_iload3 (pc' := 161) rfl rfl ?_
                refine wp_iret rfl rfl rfl ?_
                rw [hsz]
                exact kk k hX
          · intro h76
            refine wp_aload1 (pc' := 80) rfl rfl ?_
            refine wp_iload5 (pc' := 82) rfl rfl ?_
            refine wp_callV2 (pc' := 85) rfl rfl rfl rfl rfl (by first | exact TK.k1 hT rfl | exact TK.kk hT rfl | exact TK.r hT rfl | assumption) rfl rfl ?_
            refine c_charAt (SS_rd hS) hw (lt_nI h76 (by omega) (by omega)) ?_
            refine Cont.v ?_
            refine wp_goto rfl ?_
            refine wp_istore6 (pc' := 92) rfl (by first | rfl | assumption) rfl ?_
            refine wp_iload6 (pc' := 94) rfl rfl ?_
            refine wp_bipush (v := nI 32) (pc' := 96) rfl rfl rfl ?_
            refine wp_icmpeq (pc' := 99) rfl rfl ?_ ?_
            · intro h96
              have hc3 : j = (sB w).length ∨ (sB w).getD j 0 = 32 := by
                first | exact Or.inl (by have := ge_nI h76 (by omega); omega) | exact Or.inr (eq_nI h96 (by have := sB_lt hw j; omega) (by decide))
              refine wp_iload4 (pc' := 142) rfl rfl ?_
              refine wp_iload2 (pc' := 143) rfl rfl ?_
              refine wp_icmpne (pc' := 146) rfl rfl ?_ ?_
              · intro h143
                first | refine wp_iinc3 (w := nI 1) (pc' := 165) rfl rfl rfl (by with_reducible exact nI_add _ _) rfl ?_ | refine wp_iinc3 (w := nI 1) (pc' := 165) rfl rfl rfl rfl rfl ?_
                refine wp_iconst (v := nI 0) (pc' := 166) rfl rfl rfl ?_
                refine wp_istore4 (pc' := 168) rfl (by first | rfl | assumption) rfl ?_
                first | refine wp_iinc5 (w := nI 1) (pc' := 171) rfl rfl rfl (by with_reducible exact nI_add _ _) rfl ?_ | refine wp_iinc5 (w := nI 1) (pc' := 171) rfl rfl rfl rfl rfl ?_
                refine wp_goto rfl ?_
                first | exact WP.cg (ihb (j + 1) k _ _ (by omega) (scX_c hjl hc2 hvb0) (by first | rfl | assumption)) (lC1 (lC1 (lC1 (lC1 (lI1 (by unfold scS; rw [← hsz]; first | (rw [if_pos ⟨h101, h107, by rw [tn_nI (by omega)]; exact eq_nI h124 (by omega) (by omega)⟩]; first | done | exact nI_add _ _ | exact (nI_add _ _).symm) | rw [if_neg (fun q => h124 (by rw [← q.2.2, tn_nI (by omega)]))] | rw [if_neg (fun q => h107 q.2.1)] | rw [if_neg (fun q => q.1 h101)]) rfl))))) rfl rfl | exact WP.cg (ihb (j + 1) (k + 1) (nI 0) _ (by omega) (scX_n (by omega) hc3 (fun q => by first | exact h143 (by rw [q.1, hsz]) | exact h147 (nI_lt (by rw [hsz]; exact q.2) (by omega))) hvb0) (by first | rfl | assumption)) rfl rfl rfl
              · intro h143
                refine wp_iload2 (pc' := 147) rfl rfl ?_
                refine wp_ifle (pc' := 150) rfl rfl ?_ ?_
                · intro h147
                  first | refine wp_iinc3 (w := nI 1) (pc' := 165) rfl rfl rfl (by with_reducible exact nI_add _ _) rfl ?_ | refine wp_iinc3 (w := nI 1) (pc' := 165) rfl rfl rfl rfl rfl ?_
                  refine wp_iconst (v := nI 0) (pc' := 166) rfl rfl rfl ?_
                  refine wp_istore4 (pc' := 168) rfl (by first | rfl | assumption) rfl ?_
                  first | refine wp_iinc5 (w := nI 1) (pc' := 171) rfl rfl rfl (by with_reducible exact nI_add _ _) rfl ?_ | refine wp_iinc5 (w := nI 1) (pc' := 171) rfl rfl rfl rfl rfl ?_
                  refine wp_goto rfl ?_
                  first | exact WP.cg (ihb (j + 1) k _ _ (by omega) (scX_c hjl hc2 hvb0) (by first | rfl | assumption)) (lC1 (lC1 (lC1 (lC1 (lI1 (by unfold scS; rw [← hsz]; first | (rw [if_pos ⟨h101, h107, by rw [tn_nI (by omega)]; exact eq_nI h124 (by omega) (by omega)⟩]; first | done | exact nI_add _ _ | exact (nI_add _ _).symm) | rw [if_neg (fun q => h124 (by rw [← q.2.2, tn_nI (by omega)]))] | rw [if_neg (fun q => h107 q.2.1)] | rw [if_neg (fun q => q.1 h101)]) rfl))))) rfl rfl | exact WP.cg (ihb (j + 1) (k + 1) (nI 0) _ (by omega) (scX_n (by omega) hc3 (fun q => by first | exact h143 (by rw [q.1, hsz]) | exact h147 (nI_lt (by rw [hsz]; exact q.2) (by omega))) hvb0) (by first | rfl | assumption)) rfl rfl rfl
                · intro h147
                  have hz0 : 0 < i := lt_nI h147 (by decide) (by omega)
                  have hX := scX_y (by omega) hc3 (by rw [← hsz]; exact h143) (by omega) hvb0
                  refine wp_aload0 (pc' := 151) rfl rfl ?_
                  refine wp_aload0 (pc' := 152) rfl rfl ?_
                  refine wp_getI (pc' := 155) rfl rfl (by first | exact TK.k1 hT rfl | exact TK.kk hT rfl | exact TK.r hT rfl | assumption) rfl ?_
                  rw [rdM_2]
                  refine wp_iload2 (pc' := 156) rfl rfl ?_
                  first | refine wp_iaddN (pc' := 157) rfl (by with_reducible rfl) (by with_reducible rfl) rfl ?_ | refine wp_iadd (pc' := 157) rfl rfl ?_
                  refine wp_callV2 (pc' := 160) rfl rfl rfl rfl rfl (by first | exact TK.k1 hT rfl | exact TK.kk hT rfl | exact TK.r hT rfl | assumption) rfl rfl ?_
                  refine c_goOn hT hR (by omega) ?_
                  refine Cont.u ?_
                  refine wp_iload3 (pc' := 161) rfl rfl ?_
                  refine wp_iret rfl rfl rfl ?_
                  rw [hsz]
                  exact kk k hX
            · intro h96
              have hc2 : ¬ (sB w).getD j 0 = 32 := fun e => h96 (by rw [e])
              have hjl : j < (sB w).length := lt_nI h76 (by omega) (by omega)
              have hcl := sB_lt hw j
              refine wp_iload4 (pc' := 101) rfl rfl ?_
              refine wp_iflt (pc' := 104) rfl rfl ?_ ?_
              · intro h101
                refine wp_iconst (v := (-1)) (pc' := 135) rfl rfl rfl ?_
                refine wp_istore4 (pc' := 137) rfl (by first | rfl | assumption) rfl ?_
                refine wp_goto rfl ?_
                first | refine wp_iinc5 (w := nI 1) (pc' := 171) rfl rfl rfl (by with_reducible exact nI_add _ _) rfl ?_ | refine wp_iinc5 (w := nI 1) (pc' := 171) rfl rfl rfl rfl rfl ?_
                refine wp_goto rfl ?_
                first | exact WP.cg (ihb (j + 1) k _ _ (by omega) (scX_c hjl hc2 hvb0) (by first | rfl | assumption)) (lC1 (lC1 (lC1 (lC1 (lI1 (by unfold scS; rw [← hsz]; first | (rw [if_pos ⟨h101, h107, by rw [tn_nI (by omega)]; exact eq_nI h124 (by omega) (by omega)⟩]; first | done | exact nI_add _ _ | exact (nI_add _ _).symm) | rw [if_neg (fun q => h124 (by rw [← q.2.2, tn_nI (by omega)]))] | rw [if_neg (fun q => h107 q.2.1)] | rw [if_neg (fun q => q.1 h101)]) rfl))))) rfl rfl | exact WP.cg (ihb (j + 1) (k + 1) (nI 0) _ (by omega) (scX_n (by omega) hc3 (fun q => by first | exact h143 (by rw [q.1, hsz]) | exact h147 (nI_lt (by rw [hsz]; exact q.2) (by omega))) hvb0) (by first | rfl | assumption)) rfl rfl rfl
              · intro h101
                refine wp_iload4 (pc' := 106) rfl rfl ?_
                refine wp_iload2 (pc' := 107) rfl rfl ?_
                refine wp_icmpge (pc' := 110) rfl rfl ?_ ?_
                · intro h107
                  refine wp_iconst (v := (-1)) (pc' := 135) rfl rfl rfl ?_
                  refine wp_istore4 (pc' := 137) rfl (by first | rfl | assumption) rfl ?_
                  refine wp_goto rfl ?_
                  first | refine wp_iinc5 (w := nI 1) (pc' := 171) rfl rfl rfl (by with_reducible exact nI_add _ _) rfl ?_ | refine wp_iinc5 (w := nI 1) (pc' := 171) rfl rfl rfl rfl rfl ?_
                  refine wp_goto rfl ?_
                  first | exact WP.cg (ihb (j + 1) k _ _ (by omega) (scX_c hjl hc2 hvb0) (by first | rfl | assumption)) (lC1 (lC1 (lC1 (lC1 (lI1 (by unfold scS; rw [← hsz]; first | (rw [if_pos ⟨h101, h107, by rw [tn_nI (by omega)]; exact eq_nI h124 (by omega) (by omega)⟩]; first | done | exact nI_add _ _ | exact (nI_add _ _).symm) | rw [if_neg (fun q => h124 (by rw [← q.2.2, tn_nI (by omega)]))] | rw [if_neg (fun q => h107 q.2.1)] | rw [if_neg (fun q => q.1 h101)]) rfl))))) rfl rfl | exact WP.cg (ihb (j + 1) (k + 1) (nI 0) _ (by omega) (scX_n (by omega) hc3 (fun q => by first | exact h143 (by rw [q.1, hsz]) | exact h147 (nI_lt (by rw [hsz]; exact q.2) (by omega))) hvb0) (by first | rfl | assumption)) rfl rfl rfl
                · intro h107
                  obtain ⟨t, ht, rfl⟩ := InR_of (by omega) h101 h107
                  have htp := htl (p + t) (by omega)
                  refine wp_aload0 (pc' := 111) rfl rfl ?_
                  refine wp_getRF (pc' := 114) rfl rfl (by first | exact TK.k1 hT rfl | exact TK.kk hT rfl | exact TK.r hT rfl | assumption) (by first | exact TK.k1 hT rfl | exact TK.kk hT rfl | exact TK.r hT rfl | assumption) rfl ?_
                  refine wp_aload0 (pc' := 115) rfl rfl ?_
                  refine wp_getI (pc' := 118) rfl rfl (by first | exact TK.k1 hT rfl | exact TK.kk hT rfl | exact TK.r hT rfl | assumption) rfl ?_
                  rw [rdM_2]
                  refine wp_iload4 (pc' := 120) rfl rfl ?_
                  first | refine wp_iaddN (pc' := 121) rfl (by with_reducible rfl) (by with_reducible rfl) rfl ?_ | refine wp_iadd (pc' := 121) rfl rfl ?_
                  refine wp_iald _ (pc' := 122) rfl (by first | exact TK.k1 hT rfl | exact TK.kk hT rfl | exact TK.r hT rfl | assumption) (by with_reducible rfl) (by omega) (by first | decide | assumption | omega) rfl ?_
                  rw [rdM_o (by decide), htv _ (by omega)]
                  refine wp_iload6 (pc' := 124) rfl rfl ?_
                  refine wp_icmpne (pc' := 127) rfl rfl ?_ ?_
                  · intro h124
                    refine wp_iconst (v := (-1)) (pc' := 135) rfl rfl rfl ?_
                    refine wp_istore4 (pc' := 137) rfl (by first | rfl | assumption) rfl ?_
                    refine wp_goto rfl ?_
                    first | refine wp_iinc5 (w := nI 1) (pc' := 171) rfl rfl rfl (by with_reducible exact nI_add _ _) rfl ?_ | refine wp_iinc5 (w := nI 1) (pc' := 171) rfl rfl rfl rfl rfl ?_
                    refine wp_goto rfl ?_
                    first | exact WP.cg (ihb (j + 1) k _ _ (by omega) (scX_c hjl hc2 hvb0) (by first | rfl | assumption)) (lC1 (lC1 (lC1 (lC1 (lI1 (by unfold scS; rw [← hsz]; first | (rw [if_pos ⟨h101, h107, by rw [tn_nI (by omega)]; exact eq_nI h124 (by omega) (by omega)⟩]; first | done | exact nI_add _ _ | exact (nI_add _ _).symm) | rw [if_neg (fun q => h124 (by rw [← q.2.2, tn_nI (by omega)]))] | rw [if_neg (fun q => h107 q.2.1)] | rw [if_neg (fun q => q.1 h101)]) rfl))))) rfl rfl | exact WP.cg (ihb (j + 1) (k + 1) (nI 0) _ (by omega) (scX_n (by omega) hc3 (fun q => by first | exact h143 (by rw [q.1, hsz]) | exact h147 (nI_lt (by rw [hsz]; exact q.2) (by omega))) hvb0) (by first | rfl | assumption)) rfl rfl rfl
                  · intro h124
                    refine wp_iload4 (pc' := 129) rfl rfl ?_
                    refine wp_iconst (v := nI 1) (pc' := 130) rfl rfl rfl ?_
                    first | refine wp_iaddN (pc' := 131) rfl (by with_reducible rfl) (by with_reducible rfl) rfl ?_ | refine wp_iadd (pc' := 131) rfl rfl ?_
                    refine wp_goto rfl ?_
                    refine wp_istore4 (pc' := 137) rfl (by first | rfl | assumption) rfl ?_
                    refine wp_goto rfl ?_
                    first | refine wp_iinc5 (w := nI 1) (pc' := 171) rfl rfl rfl (by with_reducible exact nI_add _ _) rfl ?_ | refine wp_iinc5 (w := nI 1) (pc' := 171) rfl rfl rfl rfl rfl ?_
                    refine wp_goto rfl ?_
                    first | exact WP.cg (ihb (j + 1) k _ _ (by omega) (scX_c hjl hc2 hvb0) (by first | rfl | assumption)) (lC1 (lC1 (lC1 (lC1 (lI1 (by unfold scS; rw [← hsz]; first | (rw [if_pos ⟨h101, h107, by rw [tn_nI (by omega)]; exact eq_nI h124 (by omega) (by omega)⟩]; first | done | exact nI_add _ _ | exact (nI_add _ _).symm) | rw [if_neg (fun q => h124 (by rw [← q.2.2, tn_nI (by omega)]))] | rw [if_neg (fun q => h107 q.2.1)] | rw [if_neg (fun q => q.1 h101)]) rfl))))) rfl rfl | exact WP.cg (ihb (j + 1) (k + 1) (nI 0) _ (by omega) (scX_n (by omega) hc3 (fun q => by first | exact h143 (by rw [q.1, hsz]) | exact h147 (nI_lt (by rw [hsz]; exact q.2) (by omega))) hvb0) (by first | rfl | assumption)) rfl rfl rfl
      exact WP.cg (lp61 ((sB w).length + 1) (0) 0 (nI 0) _ (by omega) rfl (by first | rfl | assumption)) (lC1 (lC1 (lI1 (by rfl) (lI1 (by rfl) (lI1 (by rfl) (lI1 (by rfl) (lC1 rfl))))))) rfl (by rfl)
    | succ r ih =>
      intro i v3 v4 v5 v6 hi hv0 hv1 hv2 hv3 hv4
      refine wp_aload0 (pc' := 3) rfl rfl ?_
      refine wp_getI (pc' := 6) rfl rfl (by first | exact TK.k1 hT rfl | exact TK.kk hT rfl | exact TK.r hT rfl | assumption) rfl ?_
      rw [rdM_2]
      refine wp_iload2 (pc' := 7) rfl rfl ?_
      first | refine wp_iaddN (pc' := 8) rfl (by with_reducible rfl) (by with_reducible rfl) rfl ?_ | refine wp_iadd (pc' := 8) rfl rfl ?_
      refine wp_aload0 (pc' := 9) rfl rfl ?_
      refine wp_getI (pc' := 12) rfl rfl (by first | exact TK.k1 hT rfl | exact TK.kk hT rfl | exact TK.r hT rfl | assumption) rfl ?_
      rw [rdM_1, hL]
      refine wp_icmpge (pc' := 15) rfl rfl ?_ ?_
      · intro h12
        have hl0 : letN tv T (p + i) = 0 := by
          first | exact letN_T (ge_nI h12 (by omega)) | exact letN_n hpi (fun e => by have := lt_nI h28 (by omega) (by decide); omega) | exact letN_n hpi (fun e => by have := lt_nI h44 (by decide) (by omega); omega) | exact letN_T (by omega)
        have hsz : i = letN tv T p := by omega
        have hszl := letN_le (tv := tv) (T := T) (p := p)
        obtain ⟨sl1, sl2⟩ := sB_small ⟨w, hw⟩
        have sl1 : (sB w).length < 100 := sl1
        refine wp_iconst (v := nI 0) (pc' := 54) rfl rfl rfl ?_
        refine wp_istore3 (pc' := 55) rfl (by first | rfl | assumption) rfl ?_
        refine wp_iconst (v := nI 0) (pc' := 56) rfl rfl rfl ?_
        refine wp_istore4 (pc' := 58) rfl (by first | rfl | assumption) rfl ?_
        refine wp_iconst (v := nI 0) (pc' := 59) rfl rfl rfl ?_
        refine wp_istore5 (pc' := 61) rfl (by first | rfl | assumption) rfl ?_
        have lp61 : ∀ rb (j : Nat) (k : Nat) (u : Int32) (v6 : Value), j + rb = (sB w).length + 1 → scX tv p (letN tv T p) (sB w) j k u = scX tv p (letN tv T p) (sB w) 0 0 (nI 0) → isL v6 = false → WP (d + 3) F_72 61 [.ref 39, .ref (lmB + 2 * w), .int (nI i), .int (nI k), .int u, .int (nI j), v6] [] (K, rdM I (p), L, R, n, s) Q := by
          intro rb; induction rb with
          | zero =>
            intro j k u v6 hib hvb0 hvb1
            refine wp_iload5 (pc' := 63) rfl rfl ?_
            refine wp_aload1 (pc' := 64) rfl rfl ?_
            refine wp_callV1 (pc' := 67) rfl rfl rfl rfl rfl (by first | exact TK.k1 hT rfl | exact TK.kk hT rfl | exact TK.r hT rfl | assumption) rfl rfl ?_
            refine c_strlen (SS_rd hS) hw ?_
            refine Cont.v ?_
            refine wp_icmpgtT rfl (nI_lt (by omega) (by omega)) ?_
            refine wp_iconst (v := (-1)) (pc' := 175) rfl rfl rfl ?_
            refine wp_iret rfl rfl rfl ?_
            exact kk0 (scX_e (by omega) hvb0)
          | succ rb ihb =>
            intro j k u v6 hib hvb0 hvb1
            refine wp_iload5 (pc' := 63) rfl rfl ?_
            refine wp_aload1 (pc' := 64) rfl rfl ?_
            refine wp_callV1 (pc' := 67) rfl rfl rfl rfl rfl (by first | exact TK.k1 hT rfl | exact TK.kk hT rfl | exact TK.r hT rfl | assumption) rfl rfl ?_
            refine c_strlen (SS_rd hS) hw ?_
            refine Cont.v ?_
            refine wp_icmpgtF (pc' := 70) rfl (nI_nlt (by omega) (by omega)) rfl ?_
            refine wp_iload5 (pc' := 72) rfl rfl ?_
            refine wp_aload1 (pc' := 73) rfl rfl ?_
            refine wp_callV1 (pc' := 76) rfl rfl rfl rfl rfl (by first | exact TK.k1 hT rfl | exact TK.kk hT rfl | exact TK.r hT rfl | assumption) rfl rfl ?_
            refine c_strlen (SS_rd hS) hw ?_
            refine Cont.v ?_
            refine wp_icmpge (pc' := 79) rfl rfl ?_ ?_
            · intro h76
              refine wp_bipush (v := nI 32) (pc' := 90) rfl rfl rfl ?_
              refine wp_istore6 (pc' := 92) rfl (by first | rfl | assumption) rfl ?_
              refine wp_iload6 (pc' := 94) rfl rfl ?_
              refine wp_bipush (v := nI 32) (pc' := 96) rfl rfl rfl ?_
              refine wp_icmpeqT rfl rfl ?_
              have hc3 : j = (sB w).length ∨ (sB w).getD j 0 = 32 := by
                first | exact Or.inl (by have := ge_nI h76 (by omega); omega) | exact Or.inr (eq_nI h96 (by have := sB_lt hw j; omega) (by decide))
              refine wp_iload4 (pc' := 142) rfl rfl ?_
              refine wp_iload2 (pc' := 143) rfl rfl ?_
              refine wp_icmpne (pc' := 146) rfl rfl ?_ ?_
              · intro h143
                first | refine wp_iinc3 (w := nI 1) (pc' := 165) rfl rfl rfl (by with_reducible exact nI_add _ _) rfl ?_ | refine wp_iinc3 (w := nI 1) (pc' := 165) rfl rfl rfl rfl rfl ?_
                refine wp_iconst (v := nI 0) (pc' := 166) rfl rfl rfl ?_
                refine wp_istore4 (pc' := 168) rfl (by first | rfl | assumption) rfl ?_
                first | refine wp_iinc5 (w := nI 1) (pc' := 171) rfl rfl rfl (by with_reducible exact nI_add _ _) rfl ?_ | refine wp_iinc5 (w := nI 1) (pc' := 171) rfl rfl rfl rfl rfl ?_
                refine wp_goto rfl ?_
                first | exact WP.cg (ihb (j + 1) k _ _ (by omega) (scX_c hjl hc2 hvb0) (by first | rfl | assumption)) (lC1 (lC1 (lC1 (lC1 (lI1 (by unfold scS; rw [← hsz]; first | (rw [if_pos ⟨h101, h107, by rw [tn_nI (by omega)]; exact eq_nI h124 (by omega) (by omega)⟩]; first | done | exact nI_add _ _ | exact (nI_add _ _).symm) | rw [if_neg (fun q => h124 (by rw [← q.2.2, tn_nI (by omega)]))] | rw [if_neg (fun q => h107 q.2.1)] | rw [if_neg (fun q => q.1 h101)]) rfl))))) rfl rfl | exact WP.cg (ihb (j + 1) (k + 1) (nI 0) _ (by omega) (scX_n (by omega) hc3 (fun q => by first | exact h143 (by rw [q.1, hsz]) | exact h147 (nI_lt (by rw [hsz]; exact q.2) (by omega))) hvb0) (by first | rfl | assumption)) rfl rfl rfl
              · intro h143
                refine wp_iload2 (pc' := 147) rfl rfl ?_
                refine wp_ifle (pc' := 150) rfl rfl ?_ ?_
                · intro h147
                  first | refine wp_iinc3 (w := nI 1) (pc' := 165) rfl rfl rfl (by with_reducible exact nI_add _ _) rfl ?_ | refine wp_iinc3 (w := nI 1) (pc' := 165) rfl rfl rfl rfl rfl ?_
                  refine wp_iconst (v := nI 0) (pc' := 166) rfl rfl rfl ?_
                  refine wp_istore4 (pc' := 168) rfl (by first | rfl | assumption) rfl ?_
                  first | refine wp_iinc5 (w := nI 1) (pc' := 171) rfl rfl rfl (by with_reducible exact nI_add _ _) rfl ?_ | refine wp_iinc5 (w := nI 1) (pc' := 171) rfl rfl rfl rfl rfl ?_
                  refine wp_goto rfl ?_
                  first | exact WP.cg (ihb (j + 1) k _ _ (by omega) (scX_c hjl hc2 hvb0) (by first | rfl | assumption)) (lC1 (lC1 (lC1 (lC1 (lI1 (by unfold scS; rw [← hsz]; first | (rw [if_pos ⟨h101, h107, by rw [tn_nI (by omega)]; exact eq_nI h124 (by omega) (by omega)⟩]; first | done | exact nI_add _ _ | exact (nI_add _ _).symm) | rw [if_neg (fun q => h124 (by rw [← q.2.2, tn_nI (by omega)]))] | rw [if_neg (fun q => h107 q.2.1)] | rw [if_neg (fun q => q.1 h101)]) rfl))))) rfl rfl | exact WP.cg (ihb (j + 1) (k + 1) (nI 0) _ (by omega) (scX_n (by omega) hc3 (fun q => by first | exact h143 (by rw [q.1, hsz]) | exact h147 (nI_lt (by rw [hsz]; exact q.2) (by omega))) hvb0) (by first | rfl | assumption)) rfl rfl rfl
                · intro h147
                  have hz0 : 0 < i := lt_nI h147 (by decide) (by omega)
                  have hX := scX_y (by omega) hc3 (by rw [← hsz]; exact h143) (by omega) hvb0
                  refine wp_aload0 (pc' := 151) rfl rfl ?_
                  refine wp_aload0 (pc' := 152) rfl rfl ?_
                  refine wp_getI (pc' := 155) rfl rfl (by first | exact TK.k1 hT rfl | exact TK.kk hT rfl | exact TK.r hT rfl | assumption) rfl ?_
                  rw [rdM_2]
                  refine wp_iload2 (pc' := 156) rfl rfl ?_
                  first | refine wp_iaddN (pc' := 157) rfl (by with_reducible rfl) (by with_reducible rfl) rfl ?_ | refine wp_iadd (pc' := 157) rfl rfl ?_
                  refine wp_callV2 (pc' := 160) rfl rfl rfl rfl rfl (by first | exact TK.k1 hT rfl | exact TK.kk hT rfl | exact TK.r hT rfl | assumption) rfl rfl ?_
                  refine c_goOn hT hR (by omega) ?_
                  refine Cont.u ?_
                  refine wp_iload3 (pc' := 161) rfl rfl ?_
                  refine wp_iret rfl rfl rfl ?_
                  rw [hsz]
                  exact kk k hX
            · intro h76
              refine wp_aload1 (pc' := 80) rfl rfl ?_
              refine wp_iload5 (pc' := 82) rfl rfl ?_
              refine wp_callV2 (pc' := 85) rfl rfl rfl rfl rfl (by first | exact TK.k1 hT rfl | exact TK.kk hT rfl | exact TK.r hT rfl | assumption) rfl rfl ?_
              refine c_charAt (SS_rd hS) hw (lt_nI h76 (by omega) (by omega)) ?_
              refine Cont.v ?_
              refine wp_goto rfl ?_
              refine wp_istore6 (pc' := 92) rfl (by first | rfl | assumption) rfl ?_
              refine wp_iload6 (pc' := 94) rfl rfl ?_
              refine wp_bipush (v := nI 32) (pc' := 96) rfl rfl rfl ?_
              refine wp_icmpeq (pc' := 99) rfl rfl ?_ ?_
              · intro h96
                have hc3 : j = (sB w).length ∨ (sB w).getD j 0 = 32 := by
                  first | exact Or.inl (by have := ge_nI h76 (by omega); omega) | exact Or.inr (eq_nI h96 (by have := sB_lt hw j; omega) (by decide))
                refine wp_iload4 (pc' := 142) rfl rfl ?_
                refine wp_iload2 (pc' := 143) rfl rfl ?_
                refine wp_icmpne (pc' := 146) rfl rfl ?_ ?_
                · intro h143
                  first | refine wp_iinc3 (w := nI 1) (pc' := 165) rfl rfl rfl (by with_reducible exact nI_add _ _) rfl ?_ | refine wp_iinc3 (w := nI 1) (pc' := 165) rfl rfl rfl rfl rfl ?_
                  refine wp_iconst (v := nI 0) (pc' := 166) rfl rfl rfl ?_
                  refine wp_istore4 (pc' := 168) rfl (by first | rfl | assumption) rfl ?_
                  first | refine wp_iinc5 (w := nI 1) (pc' := 171) rfl rfl rfl (by with_reducible exact nI_add _ _) rfl ?_ | refine wp_iinc5 (w := nI 1) (pc' := 171) rfl rfl rfl rfl rfl ?_
                  refine wp_goto rfl ?_
                  first | exact WP.cg (ihb (j + 1) k _ _ (by omega) (scX_c hjl hc2 hvb0) (by first | rfl | assumption)) (lC1 (lC1 (lC1 (lC1 (lI1 (by unfold scS; rw [← hsz]; first | (rw [if_pos ⟨h101, h107, by rw [tn_nI (by omega)]; exact eq_nI h124 (by omega) (by omega)⟩]; first | done | exact nI_add _ _ | exact (nI_add _ _).symm) | rw [if_neg (fun q => h124 (by rw [← q.2.2, tn_nI (by omega)]))] | rw [if_neg (fun q => h107 q.2.1)] | rw [if_neg (fun q => q.1 h101)]) rfl))))) rfl rfl | exact WP.cg (ihb (j + 1) (k + 1) (nI 0) _ (by omega) (scX_n (by omega) hc3 (fun q => by first | exact h143 (by rw [q.1, hsz]) | exact h147 (nI_lt (by rw [hsz]; exact q.2) (by omega))) hvb0) (by first | rfl | assumption)) rfl rfl rfl
                · intro h143
                  refine wp_iload2 (pc' := 147) rfl rfl ?_
                  refine wp_ifle (pc' := 150) rfl rfl ?_ ?_
                  · intro h147
                    first | refine wp_iinc3 (w := nI 1) (pc' := 165) rfl rfl rfl (by with_reducible exact nI_add _ _) rfl ?_ | refine wp_iinc3 (w := nI 1) (pc' := 165) rfl rfl rfl rfl rfl ?_
                    refine wp_iconst (v := nI 0) (pc' := 166) rfl rfl rfl ?_
                    refine wp_istore4 (pc' := 168) rfl (by first | rfl | assumption) rfl ?_
                    first | refine wp_iinc5 (w := nI 1) (pc' := 171) rfl rfl rfl (by with_reducible exact nI_add _ _) rfl ?_ | refine wp_iinc5 (w := nI 1) (pc' := 171) rfl rfl rfl rfl rfl ?_
                    refine wp_goto rfl ?_
                    first | exact WP.cg (ihb (j + 1) k _ _ (by omega) (scX_c hjl hc2 hvb0) (by first | rfl | assumption)) (lC1 (lC1 (lC1 (lC1 (lI1 (by unfold scS; rw [← hsz]; first | (rw [if_pos ⟨h101, h107, by rw [tn_nI (by omega)]; exact eq_nI h124 (by omega) (by omega)⟩]; first | done | exact nI_add _ _ | exact (nI_add _ _).symm) | rw [if_neg (fun q => h124 (by rw [← q.2.2, tn_nI (by omega)]))] | rw [if_neg (fun q => h107 q.2.1)] | rw [if_neg (fun q => q.1 h101)]) rfl))))) rfl rfl | exact WP.cg (ihb (j + 1) (k + 1) (nI 0) _ (by omega) (scX_n (by omega) hc3 (fun q => by first | exact h143 (by rw [q.1, hsz]) | exact h147 (nI_lt (by rw [hsz]; exact q.2) (by omega))) hvb0) (by first | rfl | assumption)) rfl rfl rfl
                  · intro h147
                    have hz0 : 0 < i := lt_nI h147 (by decide) (by omega)
                    have hX := scX_y (by omega) hc3 (by rw [← hsz]; exact h143) (by omega) hvb0
                    refine wp_aload0 (pc' := 151) rfl rfl ?_
                    refine wp_aload0 (pc' := 152) rfl rfl ?_
                    refine wp_getI (pc' := 155) rfl rfl (by first | exact TK.k1 hT rfl | exact TK.kk hT rfl | exact TK.r hT rfl | assumption) rfl ?_
                    rw [rdM_2]
                    refine wp_iload2 (pc' := 156) rfl rfl ?_
                    first | refine wp_iaddN (pc' := 157) rfl (by with_reducible rfl) (by with_reducible rfl) rfl ?_ | refine wp_iadd (pc' := 157) rfl rfl ?_
                    refine wp_callV2 (pc' := 160) rfl rfl rfl rfl rfl (by first | exact TK.k1 hT rfl | exact TK.kk hT rfl | exact TK.r hT rfl | assumption) rfl rfl ?_
                    refine c_goOn hT hR (by omega) ?_
                    refine Cont.u ?_
                    refine wp_iload3 (pc' := 161) rfl rfl ?_
                    refine wp_iret rfl rfl rfl ?_
                    rw [hsz]
                    exact kk k hX
              · intro h96
                have hc2 : ¬ (sB w).getD j 0 = 32 := fun e => h96 (by rw [e])
                have hjl : j < (sB w).length := lt_nI h76 (by omega) (by omega)
                have hcl := sB_lt hw j
                refine wp_iload4 (pc' := 101) rfl rfl ?_
                refine wp_iflt (pc' := 104) rfl rfl ?_ ?_
                · intro h101
                  refine wp_iconst (v := (-1)) (pc' := 135) rfl rfl rfl ?_
                  refine wp_istore4 (pc' := 137) rfl (by first | rfl | assumption) rfl ?_
                  refine wp_goto rfl ?_
                  first | refine wp_iinc5 (w := nI 1) (pc' := 171) rfl rfl rfl (by with_reducible exact nI_add _ _) rfl ?_ | refine wp_iinc5 (w := nI 1) (pc' := 171) rfl rfl rfl rfl rfl ?_
                  refine wp_goto rfl ?_
                  first | exact WP.cg (ihb (j + 1) k _ _ (by omega) (scX_c hjl hc2 hvb0) (by first | rfl | assumption)) (lC1 (lC1 (lC1 (lC1 (lI1 (by unfold scS; rw [← hsz]; first | (rw [if_pos ⟨h101, h107, by rw [tn_nI (by omega)]; exact eq_nI h124 (by omega) (by omega)⟩]; first | done | exact nI_add _ _ | exact (nI_add _ _).symm) | rw [if_neg (fun q => h124 (by rw [← q.2.2, tn_nI (by omega)]))] | rw [if_neg (fun q => h107 q.2.1)] | rw [if_neg (fun q => q.1 h101)]) rfl))))) rfl rfl | exact WP.cg (ihb (j + 1) (k + 1) (nI 0) _ (by omega) (scX_n (by omega) hc3 (fun q => by first | exact h143 (by rw [q.1, hsz]) | exact h147 (nI_lt (by rw [hsz]; exact q.2) (by omega))) hvb0) (by first | rfl | assumption)) rfl rfl rfl
                · intro h101
                  refine wp_iload4 (pc' := 106) rfl rfl ?_
                  refine wp_iload2 (pc' := 107) rfl rfl ?_
                  refine wp_icmpge (pc' := 110) rfl rfl ?_ ?_
                  · intro h107
                    refine wp_iconst (v := (-1)) (pc' := 135) rfl rfl rfl ?_
                    refine wp_istore4 (pc' := 137) rfl (by first | rfl | assumption) rfl ?_
                    refine wp_goto rfl ?_
                    first | refine wp_iinc5 (w := nI 1) (pc' := 171) rfl rfl rfl (by with_reducible exact nI_add _ _) rfl ?_ | refine wp_iinc5 (w := nI 1) (pc' := 171) rfl rfl rfl rfl rfl ?_
                    refine wp_goto rfl ?_
                    first | exact WP.cg (ihb (j + 1) k _ _ (by omega) (scX_c hjl hc2 hvb0) (by first | rfl | assumption)) (lC1 (lC1 (lC1 (lC1 (lI1 (by unfold scS; rw [← hsz]; first | (rw [if_pos ⟨h101, h107, by rw [tn_nI (by omega)]; exact eq_nI h124 (by omega) (by omega)⟩]; first | done | exact nI_add _ _ | exact (nI_add _ _).symm) | rw [if_neg (fun q => h124 (by rw [← q.2.2, tn_nI (by omega)]))] | rw [if_neg (fun q => h107 q.2.1)] | rw [if_neg (fun q => q.1 h101)]) rfl))))) rfl rfl | exact WP.cg (ihb (j + 1) (k + 1) (nI 0) _ (by omega) (scX_n (by omega) hc3 (fun q => by first | exact h143 (by rw [q.1, hsz]) | exact h147 (nI_lt (by rw [hsz]; exact q.2) (by omega))) hvb0) (by first | rfl | assumption)) rfl rfl rfl
                  · intro h107
                    obtain ⟨t, ht, rfl⟩ := InR_of (by omega) h101 h107
                    have htp := htl (p + t) (by omega)
                    refine wp_aload0 (pc' := 111) rfl rfl ?_
                    refine wp_getRF (pc' := 114) rfl rfl (by first | exact TK.k1 hT rfl | exact TK.kk hT rfl | exact TK.r hT rfl | assumption) (by first | exact TK.k1 hT rfl | exact TK.kk hT rfl | exact TK.r hT rfl | assumption) rfl ?_
                    refine wp_aload0 (pc' := 115) rfl rfl ?_
                    refine wp_getI (pc' := 118) rfl rfl (by first | exact TK.k1 hT rfl | exact TK.kk hT rfl | exact TK.r hT rfl | assumption) rfl ?_
                    rw [rdM_2]
                    refine wp_iload4 (pc' := 120) rfl rfl ?_
                    first | refine wp_iaddN (pc' := 121) rfl (by with_reducible rfl) (by with_reducible rfl) rfl ?_ | refine wp_iadd (pc' := 121) rfl rfl ?_
                    refine wp_iald _ (pc' := 122) rfl (by first | exact TK.k1 hT rfl | exact TK.kk hT rfl | exact TK.r hT rfl | assumption) (by with_reducible rfl) (by omega) (by first | decide | assumption | omega) rfl ?_
                    rw [rdM_o (by decide), htv _ (by omega)]
                    refine wp_iload6 (pc' := 124) rfl rfl ?_
                    refine wp_icmpne (pc' := 127) rfl rfl ?_ ?_
                    · intro h124
                      refine wp_iconst (v := (-1)) (pc' := 135) rfl rfl rfl ?_
                      refine wp_istore4 (pc' := 137) rfl (by first | rfl | assumption) rfl ?_
                      refine wp_goto rfl ?_
                      first | refine wp_iinc5 (w := nI 1) (pc' := 171) rfl rfl rfl (by with_reducible exact nI_add _ _) rfl ?_ | refine wp_iinc5 (w := nI 1) (pc' := 171) rfl rfl rfl rfl rfl ?_
                      refine wp_goto rfl ?_
                      first | exact WP.cg (ihb (j + 1) k _ _ (by omega) (scX_c hjl hc2 hvb0) (by first | rfl | assumption)) (lC1 (lC1 (lC1 (lC1 (lI1 (by unfold scS; rw [← hsz]; first | (rw [if_pos ⟨h101, h107, by rw [tn_nI (by omega)]; exact eq_nI h124 (by omega) (by omega)⟩]; first | done | exact nI_add _ _ | exact (nI_add _ _).symm) | rw [if_neg (fun q => h124 (by rw [← q.2.2, tn_nI (by omega)]))] | rw [if_neg (fun q => h107 q.2.1)] | rw [if_neg (fun q => q.1 h101)]) rfl))))) rfl rfl | exact WP.cg (ihb (j + 1) (k + 1) (nI 0) _ (by omega) (scX_n (by omega) hc3 (fun q => by first | exact h143 (by rw [q.1, hsz]) | exact h147 (nI_lt (by rw [hsz]; exact q.2) (by omega))) hvb0) (by first | rfl | assumption)) rfl rfl rfl
                    · intro h124
                      refine wp_iload4 (pc' := 129) rfl rfl ?_
                      refine wp_iconst (v := nI 1) (pc' := 130) rfl rfl rfl ?_
                      first | refine wp_iaddN (pc' := 131) rfl (by with_reducible rfl) (by with_reducible rfl) rfl ?_ | refine wp_iadd (pc' := 131) rfl rfl ?_
                      refine wp_goto rfl ?_
                      refine wp_istore4 (pc' := 137) rfl (by first | rfl | assumption) rfl ?_
                      refine wp_goto rfl ?_
                      first | refine wp_iinc5 (w := nI 1) (pc' := 171) rfl rfl rfl (by with_reducible exact nI_add _ _) rfl ?_ | refine wp_iinc5 (w := nI 1) (pc' := 171) rfl rfl rfl rfl rfl ?_
                      refine wp_goto rfl ?_
                      first | exact WP.cg (ihb (j + 1) k _ _ (by omega) (scX_c hjl hc2 hvb0) (by first | rfl | assumption)) (lC1 (lC1 (lC1 (lC1 (lI1 (by unfold scS; rw [← hsz]; first | (rw [if_pos ⟨h101, h107, by rw [tn_nI (by omega)]; exact eq_nI h124 (by omega) (by omega)⟩]; first | done | exact nI_add _ _ | exact (nI_add _ _).symm) | rw [if_neg (fun q => h124 (by rw [← q.2.2, tn_nI (by omega)]))] | rw [if_neg (fun q => h107 q.2.1)] | rw [if_neg (fun q => q.1 h101)]) rfl))))) rfl rfl | exact WP.cg (ihb (j + 1) (k + 1) (nI 0) _ (by omega) (scX_n (by omega) hc3 (fun q => by first | exact h143 (by rw [q.1, hsz]) | exact h147 (nI_lt (by rw [hsz]; exact q.2) (by omega))) hvb0) (by first | rfl | assumption)) rfl rfl rfl
        exact WP.cg (lp61 ((sB w).length + 1) (0) 0 (nI 0) _ (by omega) rfl (by first | rfl | assumption)) (lC1 (lC1 (lI1 (by rfl) (lI1 (by rfl) (lI1 (by rfl) (lI1 (by rfl) (lC1 rfl))))))) rfl (by rfl)
      · intro h12
        have hpi : p + i < T := lt_nI h12 (by omega) (by omega)
        have hti := htl (p + i) (by omega)
        refine wp_aload0 (pc' := 16) rfl rfl ?_
        refine wp_getRF (pc' := 19) rfl rfl (by first | exact TK.k1 hT rfl | exact TK.kk hT rfl | exact TK.r hT rfl | assumption) (by first | exact TK.k1 hT rfl | exact TK.kk hT rfl | exact TK.r hT rfl | assumption) rfl ?_
        refine wp_aload0 (pc' := 20) rfl rfl ?_
        refine wp_getI (pc' := 23) rfl rfl (by first | exact TK.k1 hT rfl | exact TK.kk hT rfl | exact TK.r hT rfl | assumption) rfl ?_
        rw [rdM_2]
        refine wp_iload2 (pc' := 24) rfl rfl ?_
        first | refine wp_iaddN (pc' := 25) rfl (by with_reducible rfl) (by with_reducible rfl) rfl ?_ | refine wp_iadd (pc' := 25) rfl rfl ?_
        refine wp_iald _ (pc' := 26) rfl (by first | exact TK.k1 hT rfl | exact TK.kk hT rfl | exact TK.r hT rfl | assumption) (by with_reducible rfl) (by omega) (by first | decide | assumption | omega) rfl ?_
        rw [rdM_o (by decide), htv _ (by omega)]
        refine wp_bipush (v := nI 97) (pc' := 28) rfl rfl rfl ?_
        refine wp_icmplt (pc' := 31) rfl rfl ?_ ?_
        · intro h28
          have hl0 : letN tv T (p + i) = 0 := by
            first | exact letN_T (ge_nI h12 (by omega)) | exact letN_n hpi (fun e => by have := lt_nI h28 (by omega) (by decide); omega) | exact letN_n hpi (fun e => by have := lt_nI h44 (by decide) (by omega); omega) | exact letN_T (by omega)
          have hsz : i = letN tv T p := by omega
          have hszl := letN_le (tv := tv) (T := T) (p := p)
          obtain ⟨sl1, sl2⟩ := sB_small ⟨w, hw⟩
          have sl1 : (sB w).length < 100 := sl1
          refine wp_iconst (v := nI 0) (pc' := 54) rfl rfl rfl ?_
          refine wp_istore3 (pc' := 55) rfl (by first | rfl | assumption) rfl ?_
          refine wp_iconst (v := nI 0) (pc' := 56) rfl rfl rfl ?_
          refine wp_istore4 (pc' := 58) rfl (by first | rfl | assumption) rfl ?_
          refine wp_iconst (v := nI 0) (pc' := 59) rfl rfl rfl ?_
          refine wp_istore5 (pc' := 61) rfl (by first | rfl | assumption) rfl ?_
          have lp61 : ∀ rb (j : Nat) (k : Nat) (u : Int32) (v6 : Value), j + rb = (sB w).length + 1 → scX tv p (letN tv T p) (sB w) j k u = scX tv p (letN tv T p) (sB w) 0 0 (nI 0) → isL v6 = false → WP (d + 3) F_72 61 [.ref 39, .ref (lmB + 2 * w), .int (nI i), .int (nI k), .int u, .int (nI j), v6] [] (K, rdM I (p), L, R, n, s) Q := by
            intro rb; induction rb with
            | zero =>
              intro j k u v6 hib hvb0 hvb1
              refine wp_iload5 (pc' := 63) rfl rfl ?_
              refine wp_aload1 (pc' := 64) rfl rfl ?_
              refine wp_callV1 (pc' := 67) rfl rfl rfl rfl rfl (by first | exact TK.k1 hT rfl | exact TK.kk hT rfl | exact TK.r hT rfl | assumption) rfl rfl ?_
              refine c_strlen (SS_rd hS) hw ?_
              refine Cont.v ?_
              refine wp_icmpgtT rfl (nI_lt (by omega) (by omega)) ?_
              refine wp_iconst (v := (-1)) (pc' := 175) rfl rfl rfl ?_
              refine wp_iret rfl rfl rfl ?_
              exact kk0 (scX_e (by omega) hvb0)
            | succ rb ihb =>
              intro j k u v6 hib hvb0 hvb1
              refine wp_iload5 (pc' := 63) rfl rfl ?_
              refine wp_aload1 (pc' := 64) rfl rfl ?_
              refine wp_callV1 (pc' := 67) rfl rfl rfl rfl rfl (by first | exact TK.k1 hT rfl | exact TK.kk hT rfl | exact TK.r hT rfl | assumption) rfl rfl ?_
              refine c_strlen (SS_rd hS) hw ?_
              refine Cont.v ?_
              refine wp_icmpgtF (pc' := 70) rfl (nI_nlt (by omega) (by omega)) rfl ?_
              refine wp_iload5 (pc' := 72) rfl rfl ?_
              refine wp_aload1 (pc' := 73) rfl rfl ?_
              refine wp_callV1 (pc' := 76) rfl rfl rfl rfl rfl (by first | exact TK.k1 hT rfl | exact TK.kk hT rfl | exact TK.r hT rfl | assumption) rfl rfl ?_
              refine c_strlen (SS_rd hS) hw ?_
              refine Cont.v ?_
              refine wp_icmpge (pc' := 79) rfl rfl ?_ ?_
              · intro h76
                refine wp_bipush (v := nI 32) (pc' := 90) rfl rfl rfl ?_
                refine wp_istore6 (pc' := 92) rfl (by first | rfl | assumption) rfl ?_
                refine wp_iload6 (pc' := 94) rfl rfl ?_
                refine wp_bipush (v := nI 32) (pc' := 96) rfl rfl rfl ?_
                refine wp_icmpeqT rfl rfl ?_
                have hc3 : j = (sB w).length ∨ (sB w).getD j 0 = 32 := by
                  first | exact Or.inl (by have := ge_nI h76 (by omega); omega) | exact Or.inr (eq_nI h96 (by have := sB_lt hw j; omega) (by decide))
                refine wp_iload4 (pc' := 142) rfl rfl ?_
                refine wp_iload2 (pc' := 143) rfl rfl ?_
                refine wp_icmpne (pc' := 146) rfl rfl ?_ ?_
                · intro h143
                  first | refine wp_iinc3 (w := nI 1) (pc' := 165) rfl rfl rfl (by with_reducible exact nI_add _ _) rfl ?_ | refine wp_iinc3 (w := nI 1) (pc' := 165) rfl rfl rfl rfl rfl ?_
                  refine wp_iconst (v := nI 0) (pc' := 166) rfl rfl rfl ?_
                  refine wp_istore4 (pc' := 168) rfl (by first | rfl | assumption) rfl ?_
                  first | refine wp_iinc5 (w := nI 1) (pc' := 171) rfl rfl rfl (by with_reducible exact nI_add _ _) rfl ?_ | refine wp_iinc5 (w := nI 1) (pc' := 171) rfl rfl rfl rfl rfl ?_
                  refine wp_goto rfl ?_
                  first | exact WP.cg (ihb (j + 1) k _ _ (by omega) (scX_c hjl hc2 hvb0) (by first | rfl | assumption)) (lC1 (lC1 (lC1 (lC1 (lI1 (by unfold scS; rw [← hsz]; first | (rw [if_pos ⟨h101, h107, by rw [tn_nI (by omega)]; exact eq_nI h124 (by omega) (by omega)⟩]; first | done | exact nI_add _ _ | exact (nI_add _ _).symm) | rw [if_neg (fun q => h124 (by rw [← q.2.2, tn_nI (by omega)]))] | rw [if_neg (fun q => h107 q.2.1)] | rw [if_neg (fun q => q.1 h101)]) rfl))))) rfl rfl | exact WP.cg (ihb (j + 1) (k + 1) (nI 0) _ (by omega) (scX_n (by omega) hc3 (fun q => by first | exact h143 (by rw [q.1, hsz]) | exact h147 (nI_lt (by rw [hsz]; exact q.2) (by omega))) hvb0) (by first | rfl | assumption)) rfl rfl rfl
                · intro h143
                  refine wp_iload2 (pc' := 147) rfl rfl ?_
                  refine wp_ifle (pc' := 150) rfl rfl ?_ ?_
                  · intro h147
                    first | refine wp_iinc3 (w := nI 1) (pc' := 165) rfl rfl rfl (by with_reducible exact nI_add _ _) rfl ?_ | refine wp_iinc3 (w := nI 1) (pc' := 165) rfl rfl rfl rfl rfl ?_
                    refine wp_iconst (v := nI 0) (pc' := 166) rfl rfl rfl ?_
                    refine wp_istore4 (pc' := 168) rfl (by first | rfl | assumption) rfl ?_
                    first | refine wp_iinc5 (w := nI 1) (pc' := 171) rfl rfl rfl (by with_reducible exact nI_add _ _) rfl ?_ | refine wp_iinc5 (w := nI 1) (pc' := 171) rfl rfl rfl rfl rfl ?_
                    refine wp_goto rfl ?_
                    first | exact WP.cg (ihb (j + 1) k _ _ (by omega) (scX_c hjl hc2 hvb0) (by first | rfl | assumption)) (lC1 (lC1 (lC1 (lC1 (lI1 (by unfold scS; rw [← hsz]; first | (rw [if_pos ⟨h101, h107, by rw [tn_nI (by omega)]; exact eq_nI h124 (by omega) (by omega)⟩]; first | done | exact nI_add _ _ | exact (nI_add _ _).symm) | rw [if_neg (fun q => h124 (by rw [← q.2.2, tn_nI (by omega)]))] | rw [if_neg (fun q => h107 q.2.1)] | rw [if_neg (fun q => q.1 h101)]) rfl))))) rfl rfl | exact WP.cg (ihb (j + 1) (k + 1) (nI 0) _ (by omega) (scX_n (by omega) hc3 (fun q => by first | exact h143 (by rw [q.1, hsz]) | exact h147 (nI_lt (by rw [hsz]; exact q.2) (by omega))) hvb0) (by first | rfl | assumption)) rfl rfl rfl
                  · intro h147
                    have hz0 : 0 < i := lt_nI h147 (by decide) (by omega)
                    have hX := scX_y (by omega) hc3 (by rw [← hsz]; exact h143) (by omega) hvb0
                    refine wp_aload0 (pc' := 151) rfl rfl ?_
                    refine wp_aload0 (pc' := 152) rfl rfl ?_
                    refine wp_getI (pc' := 155) rfl rfl (by first | exact TK.k1 hT rfl | exact TK.kk hT rfl | exact TK.r hT rfl | assumption) rfl ?_
                    rw [rdM_2]
                    refine wp_iload2 (pc' := 156) rfl rfl ?_
                    first | refine wp_iaddN (pc' := 157) rfl (by with_reducible rfl) (by with_reducible rfl) rfl ?_ | refine wp_iadd (pc' := 157) rfl rfl ?_
                    refine wp_callV2 (pc' := 160) rfl rfl rfl rfl rfl (by first | exact TK.k1 hT rfl | exact TK.kk hT rfl | exact TK.r hT rfl | assumption) rfl rfl ?_
                    refine c_goOn hT hR (by omega) ?_
                    refine Cont.u ?_
                    refine wp_iload3 (pc' := 161) rfl rfl ?_
                    refine wp_iret rfl rfl rfl ?_
                    rw [hsz]
                    exact kk k hX
              · intro h76
                refine wp_aload1 (pc' := 80) rfl rfl ?_
                refine wp_iload5 (pc' := 82) rfl rfl ?_
                refine wp_callV2 (pc' := 85) rfl rfl rfl rfl rfl (by first | exact TK.k1 hT rfl | exact TK.kk hT rfl | exact TK.r hT rfl | assumption) rfl rfl ?_
                refine c_charAt (SS_rd hS) hw (lt_nI h76 (by omega) (by omega)) ?_
                refine Cont.v ?_
                refine wp_goto rfl ?_
                refine wp_istore6 (pc' := 92) rfl (by first | rfl | assumption) rfl ?_
                refine wp_iload6 (pc' := 94) rfl rfl ?_
                refine wp_bipush (v := nI 32) (pc' := 96) rfl rfl rfl ?_
                refine wp_icmpeq (pc' := 99) rfl rfl ?_ ?_
                · intro h96
                  have hc3 : j = (sB w).length ∨ (sB w).getD j 0 = 32 := by
                    first | exact Or.inl (by have := ge_nI h76 (by omega); omega) | exact Or.inr (eq_nI h96 (by have := sB_lt hw j; omega) (by decide))
                  refine wp_iload4 (pc' := 142) rfl rfl ?_
                  refine wp_iload2 (pc' := 143) rfl rfl ?_
                  refine wp_icmpne (pc' := 146) rfl rfl ?_ ?_
                  · intro h143
                    first | refine wp_iinc3 (w := nI 1) (pc' := 165) rfl rfl rfl (by with_reducible exact nI_add _ _) rfl ?_ | refine wp_iinc3 (w := nI 1) (pc' := 165) rfl rfl rfl rfl rfl ?_
                    refine wp_iconst (v := nI 0) (pc' := 166) rfl rfl rfl ?_
                    refine wp_istore4 (pc' := 168) rfl (by first | rfl | assumption) rfl ?_
                    first | refine wp_iinc5 (w := nI 1) (pc' := 171) rfl rfl rfl (by with_reducible exact nI_add _ _) rfl ?_ | refine wp_iinc5 (w := nI 1) (pc' := 171) rfl rfl rfl rfl rfl ?_
                    refine wp_goto rfl ?_
                    first | exact WP.cg (ihb (j + 1) k _ _ (by omega) (scX_c hjl hc2 hvb0) (by first | rfl | assumption)) (lC1 (lC1 (lC1 (lC1 (lI1 (by unfold scS; rw [← hsz]; first | (rw [if_pos ⟨h101, h107, by rw [tn_nI (by omega)]; exact eq_nI h124 (by omega) (by omega)⟩]; first | done | exact nI_add _ _ | exact (nI_add _ _).symm) | rw [if_neg (fun q => h124 (by rw [← q.2.2, tn_nI (by omega)]))] | rw [if_neg (fun q => h107 q.2.1)] | rw [if_neg (fun q => q.1 h101)]) rfl))))) rfl rfl | exact WP.cg (ihb (j + 1) (k + 1) (nI 0) _ (by omega) (scX_n (by omega) hc3 (fun q => by first | exact h143 (by rw [q.1, hsz]) | exact h147 (nI_lt (by rw [hsz]; exact q.2) (by omega))) hvb0) (by first | rfl | assumption)) rfl rfl rfl
                  · intro h143
                    refine wp_iload2 (pc' := 147) rfl rfl ?_
                    refine wp_ifle (pc' := 150) rfl rfl ?_ ?_
                    · intro h147
                      first | refine wp_iinc3 (w := nI 1) (pc' := 165) rfl rfl rfl (by with_reducible exact nI_add _ _) rfl ?_ | refine wp_iinc3 (w := nI 1) (pc' := 165) rfl rfl rfl rfl rfl ?_
                      refine wp_iconst (v := nI 0) (pc' := 166) rfl rfl rfl ?_
                      refine wp_istore4 (pc' := 168) rfl (by first | rfl | assumption) rfl ?_
                      first | refine wp_iinc5 (w := nI 1) (pc' := 171) rfl rfl rfl (by with_reducible exact nI_add _ _) rfl ?_ | refine wp_iinc5 (w := nI 1) (pc' := 171) rfl rfl rfl rfl rfl ?_
                      refine wp_goto rfl ?_
                      first | exact WP.cg (ihb (j + 1) k _ _ (by omega) (scX_c hjl hc2 hvb0) (by first | rfl | assumption)) (lC1 (lC1 (lC1 (lC1 (lI1 (by unfold scS; rw [← hsz]; first | (rw [if_pos ⟨h101, h107, by rw [tn_nI (by omega)]; exact eq_nI h124 (by omega) (by omega)⟩]; first | done | exact nI_add _ _ | exact (nI_add _ _).symm) | rw [if_neg (fun q => h124 (by rw [← q.2.2, tn_nI (by omega)]))] | rw [if_neg (fun q => h107 q.2.1)] | rw [if_neg (fun q => q.1 h101)]) rfl))))) rfl rfl | exact WP.cg (ihb (j + 1) (k + 1) (nI 0) _ (by omega) (scX_n (by omega) hc3 (fun q => by first | exact h143 (by rw [q.1, hsz]) | exact h147 (nI_lt (by rw [hsz]; exact q.2) (by omega))) hvb0) (by first | rfl | assumption)) rfl rfl rfl
                    · intro h147
                      have hz0 : 0 < i := lt_nI h147 (by decide) (by omega)
                      have hX := scX_y (by omega) hc3 (by rw [← hsz]; exact h143) (by omega) hvb0
                      refine wp_aload0 (pc' := 151) rfl rfl ?_
                      refine wp_aload0 (pc' := 152) rfl rfl ?_
                      refine wp_getI (pc' := 155) rfl rfl (by first | exact TK.k1 hT rfl | exact TK.kk hT rfl | exact TK.r hT rfl | assumption) rfl ?_
                      rw [rdM_2]
                      refine wp_iload2 (pc' := 156) rfl rfl ?_
                      first | refine wp_iaddN (pc' := 157) rfl (by with_reducible rfl) (by with_reducible rfl) rfl ?_ | refine wp_iadd (pc' := 157) rfl rfl ?_
                      refine wp_callV2 (pc' := 160) rfl rfl rfl rfl rfl (by first | exact TK.k1 hT rfl | exact TK.kk hT rfl | exact TK.r hT rfl | assumption) rfl rfl ?_
                      refine c_goOn hT hR (by omega) ?_
                      refine Cont.u ?_
                      refine wp_iload3 (pc' := 161) rfl rfl ?_
                      refine wp_iret rfl rfl rfl ?_
                      rw [hsz]
                      exact kk k hX
                · intro h96
                  have hc2 : ¬ (sB w).getD j 0 = 32 := fun e => h96 (by rw [e])
                  have hjl : j < (sB w).length := lt_nI h76 (by omega) (by omega)
                  have hcl := sB_lt hw j
                  refine wp_iload4 (pc' := 101) rfl rfl ?_
                  refine wp_iflt (pc' := 104) rfl rfl ?_ ?_
                  · intro h101
                    refine wp_iconst (v := (-1)) (pc' := 135) rfl rfl rfl ?_
                    refine wp_istore4 (pc' := 137) rfl (by first | rfl | assumption) rfl ?_
                    refine wp_goto rfl ?_
                    first | refine wp_iinc5 (w := nI 1) (pc' := 171) rfl rfl rfl (by with_reducible exact nI_add _ _) rfl ?_ | refine wp_iinc5 (w := nI 1) (pc' := 171) rfl rfl rfl rfl rfl ?_
                    refine wp_goto rfl ?_
                    first | exact WP.cg (ihb (j + 1) k _ _ (by omega) (scX_c hjl hc2 hvb0) (by first | rfl | assumption)) (lC1 (lC1 (lC1 (lC1 (lI1 (by unfold scS; rw [← hsz]; first | (rw [if_pos ⟨h101, h107, by rw [tn_nI (by omega)]; exact eq_nI h124 (by omega) (by omega)⟩]; first | done | exact nI_add _ _ | exact (nI_add _ _).symm) | rw [if_neg (fun q => h124 (by rw [← q.2.2, tn_nI (by omega)]))] | rw [if_neg (fun q => h107 q.2.1)] | rw [if_neg (fun q => q.1 h101)]) rfl))))) rfl rfl | exact WP.cg (ihb (j + 1) (k + 1) (nI 0) _ (by omega) (scX_n (by omega) hc3 (fun q => by first | exact h143 (by rw [q.1, hsz]) | exact h147 (nI_lt (by rw [hsz]; exact q.2) (by omega))) hvb0) (by first | rfl | assumption)) rfl rfl rfl
                  · intro h101
                    refine wp_iload4 (pc' := 106) rfl rfl ?_
                    refine wp_iload2 (pc' := 107) rfl rfl ?_
                    refine wp_icmpge (pc' := 110) rfl rfl ?_ ?_
                    · intro h107
                      refine wp_iconst (v := (-1)) (pc' := 135) rfl rfl rfl ?_
                      refine wp_istore4 (pc' := 137) rfl (by first | rfl | assumption) rfl ?_
                      refine wp_goto rfl ?_
                      first | refine wp_iinc5 (w := nI 1) (pc' := 171) rfl rfl rfl (by with_reducible exact nI_add _ _) rfl ?_ | refine wp_iinc5 (w := nI 1) (pc' := 171) rfl rfl rfl rfl rfl ?_
                      refine wp_goto rfl ?_
                      first | exact WP.cg (ihb (j + 1) k _ _ (by omega) (scX_c hjl hc2 hvb0) (by first | rfl | assumption)) (lC1 (lC1 (lC1 (lC1 (lI1 (by unfold scS; rw [← hsz]; first | (rw [if_pos ⟨h101, h107, by rw [tn_nI (by omega)]; exact eq_nI h124 (by omega) (by omega)⟩]; first | done | exact nI_add _ _ | exact (nI_add _ _).symm) | rw [if_neg (fun q => h124 (by rw [← q.2.2, tn_nI (by omega)]))] | rw [if_neg (fun q => h107 q.2.1)] | rw [if_neg (fun q => q.1 h101)]) rfl))))) rfl rfl | exact WP.cg (ihb (j + 1) (k + 1) (nI 0) _ (by omega) (scX_n (by omega) hc3 (fun q => by first | exact h143 (by rw [q.1, hsz]) | exact h147 (nI_lt (by rw [hsz]; exact q.2) (by omega))) hvb0) (by first | rfl | assumption)) rfl rfl rfl
                    · intro h107
                      obtain ⟨t, ht, rfl⟩ := InR_of (by omega) h101 h107
                      have htp := htl (p + t) (by omega)
                      refine wp_aload0 (pc' := 111) rfl rfl ?_
                      refine wp_getRF (pc' := 114) rfl rfl (by first | exact TK.k1 hT rfl | exact TK.kk hT rfl | exact TK.r hT rfl | assumption) (by first | exact TK.k1 hT rfl | exact TK.kk hT rfl | exact TK.r hT rfl | assumption) rfl ?_
                      refine wp_aload0 (pc' := 115) rfl rfl ?_
                      refine wp_getI (pc' := 118) rfl rfl (by first | exact TK.k1 hT rfl | exact TK.kk hT rfl | exact TK.r hT rfl | assumption) rfl ?_
                      rw [rdM_2]
                      refine wp_iload4 (pc' := 120) rfl rfl ?_
                      first | refine wp_iaddN (pc' := 121) rfl (by with_reducible rfl) (by with_reducible rfl) rfl ?_ | refine wp_iadd (pc' := 121) rfl rfl ?_
                      refine wp_iald _ (pc' := 122) rfl (by first | exact TK.k1 hT rfl | exact TK.kk hT rfl | exact TK.r hT rfl | assumption) (by with_reducible rfl) (by omega) (by first | decide | assumption | omega) rfl ?_
                      rw [rdM_o (by decide), htv _ (by omega)]
                      refine wp_iload6 (pc' := 124) rfl rfl ?_
                      refine wp_icmpne (pc' := 127) rfl rfl ?_ ?_
                      · intro h124
                        refine wp_iconst (v := (-1)) (pc' := 135) rfl rfl rfl ?_
                        refine wp_istore4 (pc' := 137) rfl (by first | rfl | assumption) rfl ?_
                        refine wp_goto rfl ?_
                        first | refine wp_iinc5 (w := nI 1) (pc' := 171) rfl rfl rfl (by with_reducible exact nI_add _ _) rfl ?_ | refine wp_iinc5 (w := nI 1) (pc' := 171) rfl rfl rfl rfl rfl ?_
                        refine wp_goto rfl ?_
                        first | exact WP.cg (ihb (j + 1) k _ _ (by omega) (scX_c hjl hc2 hvb0) (by first | rfl | assumption)) (lC1 (lC1 (lC1 (lC1 (lI1 (by unfold scS; rw [← hsz]; first | (rw [if_pos ⟨h101, h107, by rw [tn_nI (by omega)]; exact eq_nI h124 (by omega) (by omega)⟩]; first | done | exact nI_add _ _ | exact (nI_add _ _).symm) | rw [if_neg (fun q => h124 (by rw [← q.2.2, tn_nI (by omega)]))] | rw [if_neg (fun q => h107 q.2.1)] | rw [if_neg (fun q => q.1 h101)]) rfl))))) rfl rfl | exact WP.cg (ihb (j + 1) (k + 1) (nI 0) _ (by omega) (scX_n (by omega) hc3 (fun q => by first | exact h143 (by rw [q.1, hsz]) | exact h147 (nI_lt (by rw [hsz]; exact q.2) (by omega))) hvb0) (by first | rfl | assumption)) rfl rfl rfl
                      · intro h124
                        refine wp_iload4 (pc' := 129) rfl rfl ?_
                        refine wp_iconst (v := nI 1) (pc' := 130) rfl rfl rfl ?_
                        first | refine wp_iaddN (pc' := 131) rfl (by with_reducible rfl) (by with_reducible rfl) rfl ?_ | refine wp_iadd (pc' := 131) rfl rfl ?_
                        refine wp_goto rfl ?_
                        refine wp_istore4 (pc' := 137) rfl (by first | rfl | assumption) rfl ?_
                        refine wp_goto rfl ?_
                        first | refine wp_iinc5 (w := nI 1) (pc' := 171) rfl rfl rfl (by with_reducible exact nI_add _ _) rfl ?_ | refine wp_iinc5 (w := nI 1) (pc' := 171) rfl rfl rfl rfl rfl ?_
                        refine wp_goto rfl ?_
                        first | exact WP.cg (ihb (j + 1) k _ _ (by omega) (scX_c hjl hc2 hvb0) (by first | rfl | assumption)) (lC1 (lC1 (lC1 (lC1 (lI1 (by unfold scS; rw [← hsz]; first | (rw [if_pos ⟨h101, h107, by rw [tn_nI (by omega)]; exact eq_nI h124 (by omega) (by omega)⟩]; first | done | exact nI_add _ _ | exact (nI_add _ _).symm) | rw [if_neg (fun q => h124 (by rw [← q.2.2, tn_nI (by omega)]))] | rw [if_neg (fun q => h107 q.2.1)] | rw [if_neg (fun q => q.1 h101)]) rfl))))) rfl rfl | exact WP.cg (ihb (j + 1) (k + 1) (nI 0) _ (by omega) (scX_n (by omega) hc3 (fun q => by first | exact h143 (by rw [q.1, hsz]) | exact h147 (nI_lt (by rw [hsz]; exact q.2) (by omega))) hvb0) (by first | rfl | assumption)) rfl rfl rfl
          exact WP.cg (lp61 ((sB w).length + 1) (0) 0 (nI 0) _ (by omega) rfl (by first | rfl | assumption)) (lC1 (lC1 (lI1 (by rfl) (lI1 (by rfl) (lI1 (by rfl) (lI1 (by rfl) (lC1 rfl))))))) rfl (by rfl)
        · intro h28
          refine wp_aload0 (pc' := 32) rfl rfl ?_
          refine wp_getRF (pc' := 35) rfl rfl (by first | exact TK.k1 hT rfl | exact TK.kk hT rfl | exact TK.r hT rfl | assumption) (by first | exact TK.k1 hT rfl | exact TK.kk hT rfl | exact TK.r hT rfl | assumption) rfl ?_
          refine wp_aload0 (pc' := 36) rfl rfl ?_
          refine wp_getI (pc' := 39) rfl rfl (by first | exact TK.k1 hT rfl | exact TK.kk hT rfl | exact TK.r hT rfl | assumption) rfl ?_
          rw [rdM_2]
          refine wp_iload2 (pc' := 40) rfl rfl ?_
          first | refine wp_iaddN (pc' := 41) rfl (by with_reducible rfl) (by with_reducible rfl) rfl ?_ | refine wp_iadd (pc' := 41) rfl rfl ?_
          refine wp_iald _ (pc' := 42) rfl (by first | exact TK.k1 hT rfl | exact TK.kk hT rfl | exact TK.r hT rfl | assumption) (by with_reducible rfl) (by omega) (by first | decide | assumption | omega) rfl ?_
          rw [rdM_o (by decide), htv _ (by omega)]
          refine wp_bipush (v := nI 122) (pc' := 44) rfl rfl rfl ?_
          refine wp_icmpgt (pc' := 47) rfl rfl ?_ ?_
          · intro h44
            have hl0 : letN tv T (p + i) = 0 := by
              first | exact letN_T (ge_nI h12 (by omega)) | exact letN_n hpi (fun e => by have := lt_nI h28 (by omega) (by decide); omega) | exact letN_n hpi (fun e => by have := lt_nI h44 (by decide) (by omega); omega) | exact letN_T (by omega)
            have hsz : i = letN tv T p := by omega
            have hszl := letN_le (tv := tv) (T := T) (p := p)
            obtain ⟨sl1, sl2⟩ := sB_small ⟨w, hw⟩
            have sl1 : (sB w).length < 100 := sl1
            refine wp_iconst (v := nI 0) (pc' := 54) rfl rfl rfl ?_
            refine wp_istore3 (pc' := 55) rfl (by first | rfl | assumption) rfl ?_
            refine wp_iconst (v := nI 0) (pc' := 56) rfl rfl rfl ?_
            refine wp_istore4 (pc' := 58) rfl (by first | rfl | assumption) rfl ?_
            refine wp_iconst (v := nI 0) (pc' := 59) rfl rfl rfl ?_
            refine wp_istore5 (pc' := 61) rfl (by first | rfl | assumption) rfl ?_
            have lp61 : ∀ rb (j : Nat) (k : Nat) (u : Int32) (v6 : Value), j + rb = (sB w).length + 1 → scX tv p (letN tv T p) (sB w) j k u = scX tv p (letN tv T p) (sB w) 0 0 (nI 0) → isL v6 = false → WP (d + 3) F_72 61 [.ref 39, .ref (lmB + 2 * w), .int (nI i), .int (nI k), .int u, .int (nI j), v6] [] (K, rdM I (p), L, R, n, s) Q := by
              intro rb; induction rb with
              | zero =>
                intro j k u v6 hib hvb0 hvb1
                refine wp_iload5 (pc' := 63) rfl rfl ?_
                refine wp_aload1 (pc' := 64) rfl rfl ?_
                refine wp_callV1 (pc' := 67) rfl rfl rfl rfl rfl (by first | exact TK.k1 hT rfl | exact TK.kk hT rfl | exact TK.r hT rfl | assumption) rfl rfl ?_
                refine c_strlen (SS_rd hS) hw ?_
                refine Cont.v ?_
                refine wp_icmpgtT rfl (nI_lt (by omega) (by omega)) ?_
                refine wp_iconst (v := (-1)) (pc' := 175) rfl rfl rfl ?_
                refine wp_iret rfl rfl rfl ?_
                exact kk0 (scX_e (by omega) hvb0)
              | succ rb ihb =>
                intro j k u v6 hib hvb0 hvb1
                refine wp_iload5 (pc' := 63) rfl rfl ?_
                refine wp_aload1 (pc' := 64) rfl rfl ?_
                refine wp_callV1 (pc' := 67) rfl rfl rfl rfl rfl (by first | exact TK.k1 hT rfl | exact TK.kk hT rfl | exact TK.r hT rfl | assumption) rfl rfl ?_
                refine c_strlen (SS_rd hS) hw ?_
                refine Cont.v ?_
                refine wp_icmpgtF (pc' := 70) rfl (nI_nlt (by omega) (by omega)) rfl ?_
                refine wp_iload5 (pc' := 72) rfl rfl ?_
                refine wp_aload1 (pc' := 73) rfl rfl ?_
                refine wp_callV1 (pc' := 76) rfl rfl rfl rfl rfl (by first | exact TK.k1 hT rfl | exact TK.kk hT rfl | exact TK.r hT rfl | assumption) rfl rfl ?_
                refine c_strlen (SS_rd hS) hw ?_
                refine Cont.v ?_
                refine wp_icmpge (pc' := 79) rfl rfl ?_ ?_
                · intro h76
                  refine wp_bipush (v := nI 32) (pc' := 90) rfl rfl rfl ?_
                  refine wp_istore6 (pc' := 92) rfl (by first | rfl | assumption) rfl ?_
                  refine wp_iload6 (pc' := 94) rfl rfl ?_
                  refine wp_bipush (v := nI 32) (pc' := 96) rfl rfl rfl ?_
                  refine wp_icmpeqT rfl rfl ?_
                  have hc3 : j = (sB w).length ∨ (sB w).getD j 0 = 32 := by
                    first | exact Or.inl (by have := ge_nI h76 (by omega); omega) | exact Or.inr (eq_nI h96 (by have := sB_lt hw j; omega) (by decide))
                  refine wp_iload4 (pc' := 142) rfl rfl ?_
                  refine wp_iload2 (pc' := 143) rfl rfl ?_
                  refine wp_icmpne (pc' := 146) rfl rfl ?_ ?_
                  · intro h143
                    first | refine wp_iinc3 (w := nI 1) (pc' := 165) rfl rfl rfl (by with_reducible exact nI_add _ _) rfl ?_ | refine wp_iinc3 (w := nI 1) (pc' := 165) rfl rfl rfl rfl rfl ?_
                    refine wp_iconst (v := nI 0) (pc' := 166) rfl rfl rfl ?_
                    refine wp_istore4 (pc' := 168) rfl (by first | rfl | assumption) rfl ?_
                    first | refine wp_iinc5 (w := nI 1) (pc' := 171) rfl rfl rfl (by with_reducible exact nI_add _ _) rfl ?_ | refine wp_iinc5 (w := nI 1) (pc' := 171) rfl rfl rfl rfl rfl ?_
                    refine wp_goto rfl ?_
                    first | exact WP.cg (ihb (j + 1) k _ _ (by omega) (scX_c hjl hc2 hvb0) (by first | rfl | assumption)) (lC1 (lC1 (lC1 (lC1 (lI1 (by unfold scS; rw [← hsz]; first | (rw [if_pos ⟨h101, h107, by rw [tn_nI (by omega)]; exact eq_nI h124 (by omega) (by omega)⟩]; first | done | exact nI_add _ _ | exact (nI_add _ _).symm) | rw [if_neg (fun q => h124 (by rw [← q.2.2, tn_nI (by omega)]))] | rw [if_neg (fun q => h107 q.2.1)] | rw [if_neg (fun q => q.1 h101)]) rfl))))) rfl rfl | exact WP.cg (ihb (j + 1) (k + 1) (nI 0) _ (by omega) (scX_n (by omega) hc3 (fun q => by first | exact h143 (by rw [q.1, hsz]) | exact h147 (nI_lt (by rw [hsz]; exact q.2) (by omega))) hvb0) (by first | rfl | assumption)) rfl rfl rfl
                  · intro h143
                    refine wp_iload2 (pc' := 147) rfl rfl ?_
                    refine wp_ifle (pc' := 150) rfl rfl ?_ ?_
                    · intro h147
                      first | refine wp_iinc3 (w := nI 1) (pc' := 165) rfl rfl rfl (by with_reducible exact nI_add _ _) rfl ?_ | refine wp_iinc3 (w := nI 1) (pc' := 165) rfl rfl rfl rfl rfl ?_
                      refine wp_iconst (v := nI 0) (pc' := 166) rfl rfl rfl ?_
                      refine wp_istore4 (pc' := 168) rfl (by first | rfl | assumption) rfl ?_
                      first | refine wp_iinc5 (w := nI 1) (pc' := 171) rfl rfl rfl (by with_reducible exact nI_add _ _) rfl ?_ | refine wp_iinc5 (w := nI 1) (pc' := 171) rfl rfl rfl rfl rfl ?_
                      refine wp_goto rfl ?_
                      first | exact WP.cg (ihb (j + 1) k _ _ (by omega) (scX_c hjl hc2 hvb0) (by first | rfl | assumption)) (lC1 (lC1 (lC1 (lC1 (lI1 (by unfold scS; rw [← hsz]; first | (rw [if_pos ⟨h101, h107, by rw [tn_nI (by omega)]; exact eq_nI h124 (by omega) (by omega)⟩]; first | done | exact nI_add _ _ | exact (nI_add _ _).symm) | rw [if_neg (fun q => h124 (by rw [← q.2.2, tn_nI (by omega)]))] | rw [if_neg (fun q => h107 q.2.1)] | rw [if_neg (fun q => q.1 h101)]) rfl))))) rfl rfl | exact WP.cg (ihb (j + 1) (k + 1) (nI 0) _ (by omega) (scX_n (by omega) hc3 (fun q => by first | exact h143 (by rw [q.1, hsz]) | exact h147 (nI_lt (by rw [hsz]; exact q.2) (by omega))) hvb0) (by first | rfl | assumption)) rfl rfl rfl
                    · intro h147
                      have hz0 : 0 < i := lt_nI h147 (by decide) (by omega)
                      have hX := scX_y (by omega) hc3 (by rw [← hsz]; exact h143) (by omega) hvb0
                      refine wp_aload0 (pc' := 151) rfl rfl ?_
                      refine wp_aload0 (pc' := 152) rfl rfl ?_
                      refine wp_getI (pc' := 155) rfl rfl (by first | exact TK.k1 hT rfl | exact TK.kk hT rfl | exact TK.r hT rfl | assumption) rfl ?_
                      rw [rdM_2]
                      refine wp_iload2 (pc' := 156) rfl rfl ?_
                      first | refine wp_iaddN (pc' := 157) rfl (by with_reducible rfl) (by with_reducible rfl) rfl ?_ | refine wp_iadd (pc' := 157) rfl rfl ?_
                      refine wp_callV2 (pc' := 160) rfl rfl rfl rfl rfl (by first | exact TK.k1 hT rfl | exact TK.kk hT rfl | exact TK.r hT rfl | assumption) rfl rfl ?_
                      refine c_goOn hT hR (by omega) ?_
                      refine Cont.u ?_
                      refine wp_iload3 (pc' := 161) rfl rfl ?_
                      refine wp_iret rfl rfl rfl ?_
                      rw [hsz]
                      exact kk k hX
                · intro h76
                  refine wp_aload1 (pc' := 80) rfl rfl ?_
                  refine wp_iload5 (pc' := 82) rfl rfl ?_
                  refine wp_callV2 (pc' := 85) rfl rfl rfl rfl rfl (by first | exact TK.k1 hT rfl | exact TK.kk hT rfl | exact TK.r hT rfl | assumption) rfl rfl ?_
                  refine c_charAt (SS_rd hS) hw (lt_nI h76 (by omega) (by omega)) ?_
                  refine Cont.v ?_
                  refine wp_goto rfl ?_
                  refine wp_istore6 (pc' := 92) rfl (by first | rfl | assumption) rfl ?_
                  refine wp_iload6 (pc' := 94) rfl rfl ?_
                  refine wp_bipush (v := nI 32) (pc' := 96) rfl rfl rfl ?_
                  refine wp_icmpeq (pc' := 99) rfl rfl ?_ ?_
                  · intro h96
                    have hc3 : j = (sB w).length ∨ (sB w).getD j 0 = 32 := by
                      first | exact Or.inl (by have := ge_nI h76 (by omega); omega) | exact Or.inr (eq_nI h96 (by have := sB_lt hw j; omega) (by decide))
                    refine wp_iload4 (pc' := 142) rfl rfl ?_
                    refine wp_iload2 (pc' := 143) rfl rfl ?_
                    refine wp_icmpne (pc' := 146) rfl rfl ?_ ?_
                    · intro h143
                      first | refine wp_iinc3 (w := nI 1) (pc' := 165) rfl rfl rfl (by with_reducible exact nI_add _ _) rfl ?_ | refine wp_iinc3 (w := nI 1) (pc' := 165) rfl rfl rfl rfl rfl ?_
                      refine wp_iconst (v := nI 0) (pc' := 166) rfl rfl rfl ?_
                      refine wp_istore4 (pc' := 168) rfl (by first | rfl | assumption) rfl ?_
                      first | refine wp_iinc5 (w := nI 1) (pc' := 171) rfl rfl rfl (by with_reducible exact nI_add _ _) rfl ?_ | refine wp_iinc5 (w := nI 1) (pc' := 171) rfl rfl rfl rfl rfl ?_
                      refine wp_goto rfl ?_
                      first | exact WP.cg (ihb (j + 1) k _ _ (by omega) (scX_c hjl hc2 hvb0) (by first | rfl | assumption)) (lC1 (lC1 (lC1 (lC1 (lI1 (by unfold scS; rw [← hsz]; first | (rw [if_pos ⟨h101, h107, by rw [tn_nI (by omega)]; exact eq_nI h124 (by omega) (by omega)⟩]; first | done | exact nI_add _ _ | exact (nI_add _ _).symm) | rw [if_neg (fun q => h124 (by rw [← q.2.2, tn_nI (by omega)]))] | rw [if_neg (fun q => h107 q.2.1)] | rw [if_neg (fun q => q.1 h101)]) rfl))))) rfl rfl | exact WP.cg (ihb (j + 1) (k + 1) (nI 0) _ (by omega) (scX_n (by omega) hc3 (fun q => by first | exact h143 (by rw [q.1, hsz]) | exact h147 (nI_lt (by rw [hsz]; exact q.2) (by omega))) hvb0) (by first | rfl | assumption)) rfl rfl rfl
                    · intro h143
                      refine wp_iload2 (pc' := 147) rfl rfl ?_
                      refine wp_ifle (pc' := 150) rfl rfl ?_ ?_
                      · intro h147
                        first | refine wp_iinc3 (w := nI 1) (pc' := 165) rfl rfl rfl (by with_reducible exact nI_add _ _) rfl ?_ | refine wp_iinc3 (w := nI 1) (pc' := 165) rfl rfl rfl rfl rfl ?_
                        refine wp_iconst (v := nI 0) (pc' := 166) rfl rfl rfl ?_
                        refine wp_istore4 (pc' := 168) rfl (by first | rfl | assumption) rfl ?_
                        first | refine wp_iinc5 (w := nI 1) (pc' := 171) rfl rfl rfl (by with_reducible exact nI_add _ _) rfl ?_ | refine wp_iinc5 (w := nI 1) (pc' := 171) rfl rfl rfl rfl rfl ?_
                        refine wp_goto rfl ?_
                        first | exact WP.cg (ihb (j + 1) k _ _ (by omega) (scX_c hjl hc2 hvb0) (by first | rfl | assumption)) (lC1 (lC1 (lC1 (lC1 (lI1 (by unfold scS; rw [← hsz]; first | (rw [if_pos ⟨h101, h107, by rw [tn_nI (by omega)]; exact eq_nI h124 (by omega) (by omega)⟩]; first | done | exact nI_add _ _ | exact (nI_add _ _).symm) | rw [if_neg (fun q => h124 (by rw [← q.2.2, tn_nI (by omega)]))] | rw [if_neg (fun q => h107 q.2.1)] | rw [if_neg (fun q => q.1 h101)]) rfl))))) rfl rfl | exact WP.cg (ihb (j + 1) (k + 1) (nI 0) _ (by omega) (scX_n (by omega) hc3 (fun q => by first | exact h143 (by rw [q.1, hsz]) | exact h147 (nI_lt (by rw [hsz]; exact q.2) (by omega))) hvb0) (by first | rfl | assumption)) rfl rfl rfl
                      · intro h147
                        have hz0 : 0 < i := lt_nI h147 (by decide) (by omega)
                        have hX := scX_y (by omega) hc3 (by rw [← hsz]; exact h143) (by omega) hvb0
                        refine wp_aload0 (pc' := 151) rfl rfl ?_
                        refine wp_aload0 (pc' := 152) rfl rfl ?_
                        refine wp_getI (pc' := 155) rfl rfl (by first | exact TK.k1 hT rfl | exact TK.kk hT rfl | exact TK.r hT rfl | assumption) rfl ?_
                        rw [rdM_2]
                        refine wp_iload2 (pc' := 156) rfl rfl ?_
                        first | refine wp_iaddN (pc' := 157) rfl (by with_reducible rfl) (by with_reducible rfl) rfl ?_ | refine wp_iadd (pc' := 157) rfl rfl ?_
                        refine wp_callV2 (pc' := 160) rfl rfl rfl rfl rfl (by first | exact TK.k1 hT rfl | exact TK.kk hT rfl | exact TK.r hT rfl | assumption) rfl rfl ?_
                        refine c_goOn hT hR (by omega) ?_
                        refine Cont.u ?_
                        refine wp_iload3 (pc' := 161) rfl rfl ?_
                        refine wp_iret rfl rfl rfl ?_
                        rw [hsz]
                        exact kk k hX
                  · intro h96
                    have hc2 : ¬ (sB w).getD j 0 = 32 := fun e => h96 (by rw [e])
                    have hjl : j < (sB w).length := lt_nI h76 (by omega) (by omega)
                    have hcl := sB_lt hw j
                    refine wp_iload4 (pc' := 101) rfl rfl ?_
                    refine wp_iflt (pc' := 104) rfl rfl ?_ ?_
                    · intro h101
                      refine wp_iconst (v := (-1)) (pc' := 135) rfl rfl rfl ?_
                      refine wp_istore4 (pc' := 137) rfl (by first | rfl | assumption) rfl ?_
                      refine wp_goto rfl ?_
                      first | refine wp_iinc5 (w := nI 1) (pc' := 171) rfl rfl rfl (by with_reducible exact nI_add _ _) rfl ?_ | refine wp_iinc5 (w := nI 1) (pc' := 171) rfl rfl rfl rfl rfl ?_
                      refine wp_goto rfl ?_
                      first | exact WP.cg (ihb (j + 1) k _ _ (by omega) (scX_c hjl hc2 hvb0) (by first | rfl | assumption)) (lC1 (lC1 (lC1 (lC1 (lI1 (by unfold scS; rw [← hsz]; first | (rw [if_pos ⟨h101, h107, by rw [tn_nI (by omega)]; exact eq_nI h124 (by omega) (by omega)⟩]; first | done | exact nI_add _ _ | exact (nI_add _ _).symm) | rw [if_neg (fun q => h124 (by rw [← q.2.2, tn_nI (by omega)]))] | rw [if_neg (fun q => h107 q.2.1)] | rw [if_neg (fun q => q.1 h101)]) rfl))))) rfl rfl | exact WP.cg (ihb (j + 1) (k + 1) (nI 0) _ (by omega) (scX_n (by omega) hc3 (fun q => by first | exact h143 (by rw [q.1, hsz]) | exact h147 (nI_lt (by rw [hsz]; exact q.2) (by omega))) hvb0) (by first | rfl | assumption)) rfl rfl rfl
                    · intro h101
                      refine wp_iload4 (pc' := 106) rfl rfl ?_
                      refine wp_iload2 (pc' := 107) rfl rfl ?_
                      refine wp_icmpge (pc' := 110) rfl rfl ?_ ?_
                      · intro h107
                        refine wp_iconst (v := (-1)) (pc' := 135) rfl rfl rfl ?_
                        refine wp_istore4 (pc' := 137) rfl (by first | rfl | assumption) rfl ?_
                        refine wp_goto rfl ?_
                        first | refine wp_iinc5 (w := nI 1) (pc' := 171) rfl rfl rfl (by with_reducible exact nI_add _ _) rfl ?_ | refine wp_iinc5 (w := nI 1) (pc' := 171) rfl rfl rfl rfl rfl ?_
                        refine wp_goto rfl ?_
                        first | exact WP.cg (ihb (j + 1) k _ _ (by omega) (scX_c hjl hc2 hvb0) (by first | rfl | assumption)) (lC1 (lC1 (lC1 (lC1 (lI1 (by unfold scS; rw [← hsz]; first | (rw [if_pos ⟨h101, h107, by rw [tn_nI (by omega)]; exact eq_nI h124 (by omega) (by omega)⟩]; first | done | exact nI_add _ _ | exact (nI_add _ _).symm) | rw [if_neg (fun q => h124 (by rw [← q.2.2, tn_nI (by omega)]))] | rw [if_neg (fun q => h107 q.2.1)] | rw [if_neg (fun q => q.1 h101)]) rfl))))) rfl rfl | exact WP.cg (ihb (j + 1) (k + 1) (nI 0) _ (by omega) (scX_n (by omega) hc3 (fun q => by first | exact h143 (by rw [q.1, hsz]) | exact h147 (nI_lt (by rw [hsz]; exact q.2) (by omega))) hvb0) (by first | rfl | assumption)) rfl rfl rfl
                      · intro h107
                        obtain ⟨t, ht, rfl⟩ := InR_of (by omega) h101 h107
                        have htp := htl (p + t) (by omega)
                        refine wp_aload0 (pc' := 111) rfl rfl ?_
                        refine wp_getRF (pc' := 114) rfl rfl (by first | exact TK.k1 hT rfl | exact TK.kk hT rfl | exact TK.r hT rfl | assumption) (by first | exact TK.k1 hT rfl | exact TK.kk hT rfl | exact TK.r hT rfl | assumption) rfl ?_
                        refine wp_aload0 (pc' := 115) rfl rfl ?_
                        refine wp_getI (pc' := 118) rfl rfl (by first | exact TK.k1 hT rfl | exact TK.kk hT rfl | exact TK.r hT rfl | assumption) rfl ?_
                        rw [rdM_2]
                        refine wp_iload4 (pc' := 120) rfl rfl ?_
                        first | refine wp_iaddN (pc' := 121) rfl (by with_reducible rfl) (by with_reducible rfl) rfl ?_ | refine wp_iadd (pc' := 121) rfl rfl ?_
                        refine wp_iald _ (pc' := 122) rfl (by first | exact TK.k1 hT rfl | exact TK.kk hT rfl | exact TK.r hT rfl | assumption) (by with_reducible rfl) (by omega) (by first | decide | assumption | omega) rfl ?_
                        rw [rdM_o (by decide), htv _ (by omega)]
                        refine wp_iload6 (pc' := 124) rfl rfl ?_
                        refine wp_icmpne (pc' := 127) rfl rfl ?_ ?_
                        · intro h124
                          refine wp_iconst (v := (-1)) (pc' := 135) rfl rfl rfl ?_
                          refine wp_istore4 (pc' := 137) rfl (by first | rfl | assumption) rfl ?_
                          refine wp_goto rfl ?_
                          first | refine wp_iinc5 (w := nI 1) (pc' := 171) rfl rfl rfl (by with_reducible exact nI_add _ _) rfl ?_ | refine wp_iinc5 (w := nI 1) (pc' := 171) rfl rfl rfl rfl rfl ?_
                          refine wp_goto rfl ?_
                          first | exact WP.cg (ihb (j + 1) k _ _ (by omega) (scX_c hjl hc2 hvb0) (by first | rfl | assumption)) (lC1 (lC1 (lC1 (lC1 (lI1 (by unfold scS; rw [← hsz]; first | (rw [if_pos ⟨h101, h107, by rw [tn_nI (by omega)]; exact eq_nI h124 (by omega) (by omega)⟩]; first | done | exact nI_add _ _ | exact (nI_add _ _).symm) | rw [if_neg (fun q => h124 (by rw [← q.2.2, tn_nI (by omega)]))] | rw [if_neg (fun q => h107 q.2.1)] | rw [if_neg (fun q => q.1 h101)]) rfl))))) rfl rfl | exact WP.cg (ihb (j + 1) (k + 1) (nI 0) _ (by omega) (scX_n (by omega) hc3 (fun q => by first | exact h143 (by rw [q.1, hsz]) | exact h147 (nI_lt (by rw [hsz]; exact q.2) (by omega))) hvb0) (by first | rfl | assumption)) rfl rfl rfl
                        · intro h124
                          refine wp_iload4 (pc' := 129) rfl rfl ?_
                          refine wp_iconst (v := nI 1) (pc' := 130) rfl rfl rfl ?_
                          first | refine wp_iaddN (pc' := 131) rfl (by with_reducible rfl) (by with_reducible rfl) rfl ?_ | refine wp_iadd (pc' := 131) rfl rfl ?_
                          refine wp_goto rfl ?_
                          refine wp_istore4 (pc' := 137) rfl (by first | rfl | assumption) rfl ?_
                          refine wp_goto rfl ?_
                          first | refine wp_iinc5 (w := nI 1) (pc' := 171) rfl rfl rfl (by with_reducible exact nI_add _ _) rfl ?_ | refine wp_iinc5 (w := nI 1) (pc' := 171) rfl rfl rfl rfl rfl ?_
                          refine wp_goto rfl ?_
                          first | exact WP.cg (ihb (j + 1) k _ _ (by omega) (scX_c hjl hc2 hvb0) (by first | rfl | assumption)) (lC1 (lC1 (lC1 (lC1 (lI1 (by unfold scS; rw [← hsz]; first | (rw [if_pos ⟨h101, h107, by rw [tn_nI (by omega)]; exact eq_nI h124 (by omega) (by omega)⟩]; first | done | exact nI_add _ _ | exact (nI_add _ _).symm) | rw [if_neg (fun q => h124 (by rw [← q.2.2, tn_nI (by omega)]))] | rw [if_neg (fun q => h107 q.2.1)] | rw [if_neg (fun q => q.1 h101)]) rfl))))) rfl rfl | exact WP.cg (ihb (j + 1) (k + 1) (nI 0) _ (by omega) (scX_n (by omega) hc3 (fun q => by first | exact h143 (by rw [q.1, hsz]) | exact h147 (nI_lt (by rw [hsz]; exact q.2) (by omega))) hvb0) (by first | rfl | assumption)) rfl rfl rfl
            exact WP.cg (lp61 ((sB w).length + 1) (0) 0 (nI 0) _ (by omega) rfl (by first | rfl | assumption)) (lC1 (lC1 (lI1 (by rfl) (lI1 (by rfl) (lI1 (by rfl) (lI1 (by rfl) (lC1 rfl))))))) rfl (by rfl)
          · intro h44
            have hle : 97 ≤ tv (p + i) ∧ tv (p + i) ≤ 122 := ⟨ge_nI h28 (by decide), ge_nI h44 (by omega)⟩
            first | refine wp_iinc2 (w := nI 1) (pc' := 50) rfl rfl rfl (by with_reducible exact nI_add _ _) rfl ?_ | refine wp_iinc2 (w := nI 1) (pc' := 50) rfl rfl rfl rfl rfl ?_
            refine wp_goto rfl ?_
            exact WP.cg (ih (i + 1) _ _ _ _ (by omega) (by rw [← hv0, letN_s hpi hle]; show i + 1 + letN tv T (p + i + 1) = _; omega) (by first | rfl | assumption) (by first | rfl | assumption) (by first | rfl | assumption) (by first | rfl | assumption)) (lC1 (lC1 (lI1 (by rfl) (lC1 (lC1 (lC1 (lC1 rfl))))))) rfl (by rfl)
  exact WP.cg (lp2 (T - p) (0) _ _ _ _ (by omega) (Nat.zero_add _) (by first | rfl | assumption) (by first | rfl | assumption) (by first | rfl | assumption) (by first | rfl | assumption)) (lC1 (lC1 (lI1 (by rfl) (lC1 (lC1 (lC1 (lC1 rfl))))))) rfl (by rfl)
