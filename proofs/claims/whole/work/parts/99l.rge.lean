/-! A law's text in the reference: its lines -/
def FrL (l : Nat) (I J : Mem) : Prop := (∀ a, a ≠ 318 → a ≠ 319 → J a = I a) ∧ (∀ j, j < 1333 + 4 * l → J 319 j = I 319 j) ∧ (∀ j, j ≠ 10 → j ≠ 12 → j ≠ 13 → j ≠ 16 → J 318 j = I 318 j)
theorem fr_t {l : Nat} {I J N : Mem} (h : FrL l I J) (g : FrL l J N) : FrL l I N := ⟨fun a a1 a2 => (g.1 a a1 a2).trans (h.1 a a1 a2), fun j a1 => (g.2.1 j a1).trans (h.2.1 j a1), fun j a1 a2 a3 a4 => (g.2.2 j a1 a2 a3 a4).trans (h.2.2 j a1 a2 a3 a4)⟩
theorem fr_lf {l : Nat} {I J : Mem} (hl : l < 12) (h : LfJ I J) : FrL l I J := ⟨h.1, fun j hj => h.2.1 j (by omega), h.2.2⟩
theorem fr_tk {l : Nat} {I J : Mem} {p b : Nat} (h : TkJ I J p b) : FrL l I J := ⟨fun a a1 _ => h.1 a a1, fun j _ => by rw [h.1 319 (by decide)], fun j a1 a2 _ _ => h.2.1 j a1 a2⟩
theorem fr_up {l k : Nat} {I : Mem} {v : Int32} (hk : 1333 + 4 * l ≤ k) : FrL l I (up2 I 319 k v) := ⟨fun a _ a2 => up2_row a2, fun j hj => by rw [up2_same, if_neg (by omega)], fun j _ _ _ _ => by rw [up2_row (by decide)]⟩
theorem fr_rd {l : Nat} {I J : Mem} {T : Nat} {tv : Nat → Nat} (h : FrL l I J) (hR : RfI I T tv) : RfI J T tv := ⟨by rw [h.2.2 11 (by decide) (by decide) (by decide) (by decide)]; exact hR.1, hR.2.1, by rw [h.1 324 (by decide) (by decide)]; exact hR.2.2⟩
theorem fr_ss {l : Nat} {K : Nat → Nat × Nat} {R : Nat → Nat → Option Nat} {I J : Mem} (h : FrL l I J) (hS : SS K I R) : SS K J R := SS_off hS (fun a ha => h.1 a (by unfold lmB at ha; omega) (by unfold lmB at ha; omega))
/-- a line's head, as it lies in the draft -/
def HdJ (I J : Mem) (l : Nat) (st : Sz) (k v : Nat) : Prop := FrL l I J ∧ LwS J st 0 ∧ J 319 (1333 + 4 * l) = nI k ∧ J 319 (1333 + 4 * l + 1) = nI v ∧ J 319 (1333 + 4 * l + 2) = nI st.2
theorem hd_mk {I J2 : Mem} {l k v e b : Nat} {st : Sz} (hl : l < 12) (hD : DrS (I 319) st) (h16 : I 318 16 = nI st.2) (hJ2 : TkJ (up2 I 319 (1333 + 4 * l) (nI k)) J2 e b) : HdJ I (up2 (up2 (up2 J2 319 (1333 + 4 * l + 1) (nI v)) 319 (1333 + 4 * l + 2) (nI st.2)) 318 13 (nI 0)) l st k v := by
  have h9 : J2 319 = up2 I 319 (1333 + 4 * l) (nI k) 319 := hJ2.1 319 (by decide)
  have hr : ∀ j, up2 (up2 (up2 J2 319 (1333 + 4 * l + 1) (nI v)) 319 (1333 + 4 * l + 2) (nI st.2)) 318 13 (nI 0) 319 j = if j = 1333 + 4 * l + 2 then nI st.2 else if j = 1333 + 4 * l + 1 then nI v else if j = 1333 + 4 * l then nI k else I 319 j := fun j => by
    rw [up2_row (by decide), up2_same, up2_same, h9, up2_same]
  refine ⟨⟨fun a a1 a2 => ?_, fun j hj => ?_, fun j j1 j2 j3 j4 => ?_⟩, ⟨fun i hi => ?_, ?_, up2_hit⟩, ?_, ?_, ?_⟩
  · rw [up2_row a1, up2_row a2, up2_row a2, hJ2.1 a a1, up2_row a2]
  · rw [hr, if_neg (by omega), if_neg (by omega), if_neg (by omega)]
  · rw [up2_same, if_neg j3, up2_row (by decide), up2_row (by decide), hJ2.2.1 j j1 j2, up2_row (by decide)]
  · rw [hr, hr, if_neg (by omega), if_neg (by omega), if_neg (by omega), if_neg (by omega), if_neg (by omega), if_neg (by omega)]
    exact hD i hi
  · rw [up2_same, if_neg (by decide), up2_row (by decide), up2_row (by decide), hJ2.2.1 16 (by decide) (by decide), up2_row (by decide)]; exact h16
  · rw [hr, if_neg (by omega), if_neg (by omega), if_pos rfl]
  · rw [hr, if_neg (by omega), if_pos rfl]
  · rw [hr, if_pos rfl]
def linR (tv : Nat → Nat) (T : Nat) (st : Sz) (q : Nat) : Re := match hedF tv T q with
  | .inl z => (false, st, z)
  | .inr x => cndF tv T st x.2.2
theorem linR_l {tv : Nat → Nat} {T q z : Nat} {st : Sz} (h : hedF tv T q = .inl z) : linR tv T st q = (false, st, z) := by unfold linR; rw [h]
theorem linR_r {tv : Nat → Nat} {T q k v z : Nat} {st : Sz} (h : hedF tv T q = .inr (k, v, z)) : linR tv T st q = cndF tv T st z := by unfold linR; rw [h]
/-- what a line of a law leaves -/
def LlJ (T : Nat) (tv : Nat → Nat) (l : Nat) (st : Sz) (k v : Nat) (I : Mem) (r : Re) (J : Mem) : Prop := FrL l I J ∧ (r.1 = true → DrS (J 319) r.2.1 ∧ J 318 16 = nI r.2.1.2 ∧ (J 319 (1333 + 4 * l) = nI k ∧ J 319 (1333 + 4 * l + 1) = nI v ∧ J 319 (1333 + 4 * l + 2) = nI st.2 ∧ J 319 (1333 + 4 * l + 3) = nI r.2.1.2) ∧ ∃ p, p ≤ T ∧ J 318 10 = nI p ∧ skp tv T p = r.2.2) ∧ (r.1 = false → J 318 12 = nI r.2.2)
theorem ll_f {T l z k v : Nat} {tv : Nat → Nat} {st s2 : Sz} {I J : Mem} (h : FrL l I J) (h12 : J 318 12 = nI z) : LlJ T tv l st k v I (false, s2, z) J := ⟨h, fun q => absurd (show false = true from q) (by decide), fun _ => h12⟩
theorem ll_mk {T l k v p z : Nat} {tv : Nat → Nat} {st s2 : Sz} {I M J : Mem} (hl : l < 12) (hH : HdJ I M l st k v) (hF : LfJ M J) (hLw : LwS J s2 0) (hp : p ≤ T) (h10 : J 318 10 = nI p) (hz : skp tv T p = z) : LlJ T tv l st k v I (true, s2, z) (up2 J 319 (1333 + 4 * l + 3) (nI s2.2)) := by
  refine ⟨fr_t hH.1 (fr_t (fr_lf hl hF) (fr_up (by omega))), fun _ => ⟨fun i hi => ?_, ?_, ⟨?_, ?_, ?_, up2_hit⟩, p, hp, ?_, hz⟩, fun q => absurd (show true = false from q) (by decide)⟩
  · rw [up2_same, up2_same, if_neg (by omega), if_neg (by omega)]; exact hLw.1 i hi
  · rw [up2_row (by decide)]; exact hLw.2.1
  · rw [up2_same, if_neg (by omega), hF.2.1 _ (by omega)]; exact hH.2.2.1
  · rw [up2_same, if_neg (by omega), hF.2.1 _ (by omega)]; exact hH.2.2.2.1
  · rw [up2_same, if_neg (by omega), hF.2.1 _ (by omega)]; exact hH.2.2.2.2
  · rw [up2_row (by decide)]; exact h10
section
variable {Q : Lo → Lm → Prop} {K : Nat → Nat × Nat} {I J : Mem} {L : Nat → Nat → Int64} {R : Nat → Nat → Option Nat} {n s : Nat} {tv : Nat → Nat} {T l q k v : Nat} {st : Sz} {r r0 : Re}
theorem li_f (h : ¬ r.1 = true) (e : r0 = r) (kk : ∀ J k v, (r0.1 = true → ∃ z, hedF tv T q = .inr (k, v, z)) → LlJ T tv l st k v I r0 J → Q (.inl (some (.int (if r0.1 = true then nI 1 else nI 0)))) (K, J, L, R, n, s)) (hJ : LlJ T tv l st k v I r J) : Q (.inl (some (.int (nI 0)))) (K, J, L, R, n, s) := by
  subst e
  have := kk J k v (fun z => absurd z h) hJ
  rw [if_neg h] at this
  exact this
theorem li_t {z : Nat} (h : r.1 = true) (e : r0 = r) (hh : hedF tv T q = .inr (k, v, z)) (kk : ∀ J k v, (r0.1 = true → ∃ z, hedF tv T q = .inr (k, v, z)) → LlJ T tv l st k v I r0 J → Q (.inl (some (.int (if r0.1 = true then nI 1 else nI 0)))) (K, J, L, R, n, s)) (hJ : LlJ T tv l st k v I r J) : Q (.inl (some (.int (nI 1)))) (K, J, L, R, n, s) := by
  subst e
  have := kk J k v (fun _ => ⟨z, hh⟩) hJ
  rw [if_pos h] at this
  exact this
end

theorem ll_tr {T l k v : Nat} {tv : Nat → Nat} {st : Sz} {I J : Mem} {r : Re} (h : r.1 = true) (g : LlJ T tv l st k v I (true, r.2.1, r.2.2) J) : LlJ T tv l st k v I r J := by
  obtain ⟨b, x, y⟩ := r
  obtain rfl : b = true := h
  exact g

theorem m_readLawLine {d : Nat} {K : Nat → Nat × Nat} {I : Nat → Nat → Int32} {L : Nat → Nat → Int64} {R : Nat → Nat → Option Nat} {n s : Nat} {Q : Lo → Lm → Prop} {T q l : Nat} {tv : Nat → Nat} {st : Sz} (hT : TK K R n) (hR : RfI I T tv) (hS : SS K I R) (hqT : q ≤ T) (h10 : I 318 10 = nI (q + letN tv T q)) (h12 : I 318 12 = nI q) (hl : l < 12) (hD : DrS (I 319) st) (h16 : I 318 16 = nI st.2) (hg : st.2 ≤ q) (kk : ∀ J k v, ((linR tv T st q).1 = true → ∃ z, hedF tv T q = .inr (k, v, z)) → LlJ T tv l st k v I (linR tv T st q) J → Q (.inl (some (.int (if (linR tv T st q).1 = true then nI 1 else nI 0)))) (K, J, L, R, n, s)) : Ok (d + 28) 243 [.ref 318, .int (nI l)] (K, I, L, R, n, s) Q := by
  obtain ⟨-, -, hn⟩ := id hT
  have hlT := letN_le (tv := tv) (T := T) (p := q)
  have hafg := af_gt (tv := tv) hqT
  have hafT := hafg.2
  refine Ok.enter (F := F_243) (ls := [.ref 318, .int (nI l), lDead]) rfl rfl ?_
  refine wp_sipush (v := nI 1333) (pc' := 3) rfl rfl rfl ?_
  refine wp_iconst (v := nI 4) (pc' := 4) rfl rfl rfl ?_
  refine wp_iload1 (pc' := 5) rfl rfl ?_
  first | refine wp_imulN (pc' := 6) rfl (by with_reducible rfl) (by with_reducible rfl) rfl ?_ | refine wp_imul (pc' := 6) rfl rfl ?_
  first | refine wp_iaddN (pc' := 7) rfl (by with_reducible rfl) (by with_reducible rfl) rfl ?_ | refine wp_iadd (pc' := 7) rfl rfl ?_
  refine wp_istore2 (pc' := 8) rfl (by first | rfl | assumption) rfl ?_
  refine wp_aload0 (pc' := 9) rfl rfl ?_
  refine wp_getRF (pc' := 12) rfl rfl (by first | exact TK.k1 hT rfl | exact TK.kk hT rfl | exact TK.r hT rfl | assumption) (by first | exact TK.k1 hT rfl | exact TK.kk hT rfl | exact TK.r hT rfl | assumption) rfl ?_
  refine wp_iload2 (pc' := 13) rfl rfl ?_
  refine wp_aload0 (pc' := 14) rfl rfl ?_
  refine wp_pool (v := .ref (lmB + 70)) (pc' := 16) rfl rfl rfl rfl rfl ?_
  refine wp_callV2 (pc' := 19) rfl rfl rfl rfl rfl (by first | exact TK.k1 hT rfl | exact TK.kk hT rfl | exact TK.r hT rfl | assumption) rfl rfl ?_
  refine m_isWordJ (w := 35) (p := q + letN tv T q) (b := q) [100, 114, 121] hT hR h10 h12 hS (by decide) (by decide) (by omega) (by omega) ?_
  rw [wb_wd]
  refine Cont.v ?_
  first | refine wp_ifeqB (pc' := 22) rfl rfl ?_ ?_ | refine wp_ifeq (pc' := 22) rfl rfl ?_ ?_
  · intro h19
    refine wp_aload0 (pc' := 27) rfl rfl ?_
    refine wp_pool (v := .ref (lmB + 90)) (pc' := 30) rfl rfl rfl rfl rfl ?_
    refine wp_callV2 (pc' := 33) rfl rfl rfl rfl rfl (by first | exact TK.k1 hT rfl | exact TK.kk hT rfl | exact TK.r hT rfl | assumption) rfl rfl ?_
    refine m_isWordJ (w := 45) (p := q + letN tv T q) (b := q) [115, 111, 97, 107] hT hR h10 h12 hS (by decide) (by decide) (by omega) (by omega) ?_
    rw [wb_wd]
    refine Cont.v ?_
    first | refine wp_ifeqB (pc' := 36) rfl rfl ?_ ?_ | refine wp_ifeq (pc' := 36) rfl rfl ?_ ?_
    · intro h33
      refine wp_aload0 (pc' := 41) rfl rfl ?_
      refine wp_pool (v := .ref (lmB + 92)) (pc' := 44) rfl rfl rfl rfl rfl ?_
      refine wp_callV2 (pc' := 47) rfl rfl rfl rfl rfl (by first | exact TK.k1 hT rfl | exact TK.kk hT rfl | exact TK.r hT rfl | assumption) rfl rfl ?_
      refine m_isWordJ (w := 46) (p := q + letN tv T q) (b := q) [115, 105, 110, 107] hT hR h10 h12 hS (by decide) (by decide) (by omega) (by omega) ?_
      rw [wb_wd]
      refine Cont.v ?_
      first | refine wp_ifeqB (pc' := 50) rfl rfl ?_ ?_ | refine wp_ifeq (pc' := 50) rfl rfl ?_ ?_
      · intro h47
        refine wp_iconst (v := (-1)) (pc' := 55) rfl rfl rfl ?_
        refine wp_iast _ (pc' := 56) rfl (by first | exact TK.k1 hT rfl | exact TK.kk hT rfl | exact TK.r hT rfl | assumption) (by omega) (by with_reducible rfl) (by omega) (by first | decide | assumption | omega) rfl ?_
        refine wp_aload0 (pc' := 57) rfl rfl ?_
        refine wp_getRF (pc' := 60) rfl rfl (by first | exact TK.k1 hT rfl | exact TK.kk hT rfl | exact TK.r hT rfl | assumption) (by first | exact TK.k1 hT rfl | exact TK.kk hT rfl | exact TK.r hT rfl | assumption) rfl ?_
        refine wp_iload2 (pc' := 61) rfl rfl ?_
        refine wp_iald _ (pc' := 62) rfl (by first | exact TK.k1 hT rfl | exact TK.kk hT rfl | exact TK.r hT rfl | assumption) (by with_reducible rfl) (by omega) (by first | decide | assumption | omega) rfl ?_
        rw [up2_hit]
        refine wp_ifgeF (pc' := 65) rfl (by decide) rfl ?_
        refine wp_iconst (v := nI 0) (pc' := 66) rfl rfl rfl ?_
        refine wp_iret rfl rfl (by first | rfl | exact nar_if) ?_
        exact li_f (r := (false, st, q)) (k := 0) (v := 0) Bool.false_ne_true (linR_l (hedF_n (by unfold wd kinW; rw [pick_f h19, pick_f h33, pick_f h47]; rfl))) kk (ll_f (fr_up (Nat.le_refl _)) (by rw [up2_row (by decide)]; exact h12))
      · intro h47
        refine wp_iconst (v := nI 2) (pc' := 51) rfl rfl rfl ?_
        refine wp_goto rfl ?_
        refine wp_iast _ (pc' := 56) rfl (by first | exact TK.k1 hT rfl | exact TK.kk hT rfl | exact TK.r hT rfl | assumption) (by omega) (by with_reducible rfl) (by omega) (by first | decide | assumption | omega) rfl ?_
        refine wp_aload0 (pc' := 57) rfl rfl ?_
        refine wp_getRF (pc' := 60) rfl rfl (by first | exact TK.k1 hT rfl | exact TK.kk hT rfl | exact TK.r hT rfl | assumption) (by first | exact TK.k1 hT rfl | exact TK.kk hT rfl | exact TK.r hT rfl | assumption) rfl ?_
        refine wp_iload2 (pc' := 61) rfl rfl ?_
        refine wp_iald _ (pc' := 62) rfl (by first | exact TK.k1 hT rfl | exact TK.kk hT rfl | exact TK.r hT rfl | assumption) (by with_reducible rfl) (by omega) (by first | decide | assumption | omega) rfl ?_
        rw [up2_hit]
        refine wp_ifgeT rfl (by decide) ?_
        refine wp_aload0 (pc' := 68) rfl rfl ?_
        refine wp_getRF (pc' := 71) rfl rfl (by first | exact TK.k1 hT rfl | exact TK.kk hT rfl | exact TK.r hT rfl | assumption) (by first | exact TK.k1 hT rfl | exact TK.kk hT rfl | exact TK.r hT rfl | assumption) rfl ?_
        refine wp_iload2 (pc' := 72) rfl rfl ?_
        refine wp_iconst (v := nI 1) (pc' := 73) rfl rfl rfl ?_
        first | refine wp_iaddN (pc' := 74) rfl (by with_reducible rfl) (by with_reducible rfl) rfl ?_ | refine wp_iadd (pc' := 74) rfl rfl ?_
        refine wp_aload0 (pc' := 75) rfl rfl ?_
        refine wp_iconst (v := nI 0) (pc' := 76) rfl rfl rfl ?_
        refine wp_bipush (v := nI 20) (pc' := 78) rfl rfl rfl ?_
        refine wp_callV3 (pc' := 81) rfl rfl rfl rfl rfl (by first | exact TK.k1 hT rfl | exact TK.kk hT rfl | exact TK.r hT rfl | assumption) rfl rfl ?_
        refine m_numberJ hT (fr_rd (fr_up (l := l) (Nat.le_refl _)) hR) (show q + letN tv T q ≤ T by omega) (by rw [up2_row (by decide)]; exact h10) (fun J2 e hE hJ2 => ?_)
        rw [show skp tv T (q + letN tv T q) = af tv T q from rfl] at hE hJ2 ⊢
        refine Cont.v ?_
        refine wp_iast _ (pc' := 82) rfl (by first | exact TK.k1 hT rfl | exact TK.kk hT rfl | exact TK.r hT rfl | assumption) (by omega) (by with_reducible rfl) (by omega) (by first | decide | assumption | omega) rfl ?_
        refine wp_aload0 (pc' := 83) rfl rfl ?_
        refine wp_getRF (pc' := 86) rfl rfl (by first | exact TK.k1 hT rfl | exact TK.kk hT rfl | exact TK.r hT rfl | assumption) (by first | exact TK.k1 hT rfl | exact TK.kk hT rfl | exact TK.r hT rfl | assumption) rfl ?_
        refine wp_iload2 (pc' := 87) rfl rfl ?_
        refine wp_iconst (v := nI 1) (pc' := 88) rfl rfl rfl ?_
        first | refine wp_iaddN (pc' := 89) rfl (by with_reducible rfl) (by with_reducible rfl) rfl ?_ | refine wp_iadd (pc' := 89) rfl rfl ?_
        refine wp_iald _ (pc' := 90) rfl (by first | exact TK.k1 hT rfl | exact TK.kk hT rfl | exact TK.r hT rfl | assumption) (by with_reducible rfl) (by omega) (by first | decide | assumption | omega) rfl ?_
        rw [up2_hit]
        refine wp_ifge (pc' := 93) rfl rfl ?_ ?_
        · intro h90
          obtain ⟨v, z, hN, -, -, -, -, hzT⟩ := num_pos hafT h90
          rw [hN, show numV (some (v, z)) = nI v from rfl]
          have hze := (hE.2.2 v z hN).symm
          have hzz := num_gt hafT hN
          first | (have hkw : wd tv T q kinW = some 0 := (by unfold wd kinW; rw [pick_t h19]); have hHd := hd_mk (k := 0) (v := v) hl hD h16 hJ2; have hhd := hedF_s hkw hN) | (have hkw : wd tv T q kinW = some 1 := (by unfold wd kinW; rw [pick_f h19, pick_t h33]); have hHd := hd_mk (k := 1) (v := v) hl hD h16 hJ2; have hhd := hedF_s hkw hN) | (have hkw : wd tv T q kinW = some 2 := (by unfold wd kinW; rw [pick_f h19, pick_f h33, pick_t h47]); have hHd := hd_mk (k := 2) (v := v) hl hD h16 hJ2; have hhd := hedF_s hkw hN)
          refine wp_aload0 (pc' := 96) rfl rfl ?_
          refine wp_getRF (pc' := 99) rfl rfl (by first | exact TK.k1 hT rfl | exact TK.kk hT rfl | exact TK.r hT rfl | assumption) (by first | exact TK.k1 hT rfl | exact TK.kk hT rfl | exact TK.r hT rfl | assumption) rfl ?_
          refine wp_iload2 (pc' := 100) rfl rfl ?_
          refine wp_iconst (v := nI 2) (pc' := 101) rfl rfl rfl ?_
          first | refine wp_iaddN (pc' := 102) rfl (by with_reducible rfl) (by with_reducible rfl) rfl ?_ | refine wp_iadd (pc' := 102) rfl rfl ?_
          refine wp_aload0 (pc' := 103) rfl rfl ?_
          refine wp_getI (pc' := 106) rfl rfl (by first | exact TK.k1 hT rfl | exact TK.kk hT rfl | exact TK.r hT rfl | assumption) rfl ?_
          rw [up2_row (show (318 : Nat) ≠ 319 by decide), hJ2.2.1 16 (by decide) (by decide), up2_row (show (318 : Nat) ≠ 319 by decide), h16]
          refine wp_iast _ (pc' := 107) rfl (by first | exact TK.k1 hT rfl | exact TK.kk hT rfl | exact TK.r hT rfl | assumption) (by omega) (by with_reducible rfl) (by omega) (by first | decide | assumption | omega) rfl ?_
          refine wp_aload0 (pc' := 108) rfl rfl ?_
          refine wp_iconst (v := nI 0) (pc' := 109) rfl rfl rfl ?_
          refine wp_putI (pc' := 112) rfl rfl (by first | exact TK.k1 hT rfl | exact TK.kk hT rfl | exact TK.r hT rfl | assumption) (by omega) rfl ?_
          refine wp_aload0 (pc' := 113) rfl rfl ?_
          refine wp_pool (v := .ref (lmB + 94)) (pc' := 116) rfl rfl rfl rfl rfl ?_
          refine wp_callV2 (pc' := 119) rfl rfl rfl rfl rfl (by first | exact TK.k1 hT rfl | exact TK.kk hT rfl | exact TK.r hT rfl | assumption) rfl rfl ?_
          refine m_passesJ (w := 47) kIf hT (fr_rd hHd.1 hR) hE.2.1 (by rw [up2_same, if_neg (by decide), up2_row (by decide), up2_row (by decide)]; exact hJ2.2.2.1) (fr_ss hHd.1 hS) (by decide) (by decide) (fun J4 hJ4 => ?_)
          rw [hze] at hJ4 ⊢
          refine Cont.v ?_
          first | refine wp_ifeqB (pc' := 122) rfl rfl ?_ ?_ | refine wp_ifeq (pc' := 122) rfl rfl ?_ ?_
          · intro h119
            first | (obtain ⟨hLw5, p5, hp5, hJ5p, hz5⟩ := hJ5.2.2.2.1 h126; have hF5 := lf_t (lf_tk hJ4) (lf_lr hJ5)) | (rw [if_neg h119] at hJ4; have hre : cndF tv T st z = (true, st, z) := (by unfold cndF; rw [if_neg h119]); have hLw5 := lw_tk hJ4 hHd.2.1; have hJ5p := hJ4.2.2.1; have hF5 := lf_tk hJ4; have hp5 := hzz.2; have hz5 : skp tv T z = z := (by rw [← hze]; exact skp_sk hE.2.1))
            refine wp_aload0 (pc' := 132) rfl rfl ?_
            refine wp_getRF (pc' := 135) rfl rfl (by first | exact TK.k1 hT rfl | exact TK.kk hT rfl | exact TK.r hT rfl | assumption) (by first | exact TK.k1 hT rfl | exact TK.kk hT rfl | exact TK.r hT rfl | assumption) rfl ?_
            refine wp_iload2 (pc' := 136) rfl rfl ?_
            refine wp_iconst (v := nI 3) (pc' := 137) rfl rfl rfl ?_
            first | refine wp_iaddN (pc' := 138) rfl (by with_reducible rfl) (by with_reducible rfl) rfl ?_ | refine wp_iadd (pc' := 138) rfl rfl ?_
            refine wp_aload0 (pc' := 139) rfl rfl ?_
            refine wp_getI (pc' := 142) rfl rfl (by first | exact TK.k1 hT rfl | exact TK.kk hT rfl | exact TK.r hT rfl | assumption) rfl ?_
            rw [hLw5.2.1]
            refine wp_iast _ (pc' := 143) rfl (by first | exact TK.k1 hT rfl | exact TK.kk hT rfl | exact TK.r hT rfl | assumption) (by omega) (by with_reducible rfl) (by omega) (by first | decide | assumption | omega) rfl ?_
            refine wp_iconst (v := nI 1) (pc' := 144) rfl rfl rfl ?_
            refine wp_iret rfl rfl (by first | rfl | exact nar_if) ?_
            first | exact li_t (r := r5) h126 ((linR_r hhd).trans hre) hhd kk (ll_tr h126 (ll_mk hl hHd hF5 hLw5 hp5 hJ5p hz5)) | exact li_t (r := (true, st, z)) rfl ((linR_r hhd).trans hre) hhd kk (ll_mk hl hHd hF5 hLw5 hp5 hJ5p hz5)
          · intro h119
            refine wp_aload0 (pc' := 123) rfl rfl ?_
            refine wp_callV1 (pc' := 126) rfl rfl rfl rfl rfl (by first | exact TK.k1 hT rfl | exact TK.kk hT rfl | exact TK.r hT rfl | assumption) rfl rfl ?_
            rw [if_pos h119] at hJ4
            have haf := af_gt (tv := tv) (T := T) hzz.2
            have hlz := letN_le (tv := tv) (T := T) (p := z)
            refine m_readCond hT _ _ st (z + letN tv T z) _ (tk_rd hJ4 (fr_rd hHd.1 hR)) (tk_ss hJ4 (fr_ss hHd.1 hS)) (by have := hzz.2; omega) hJ4.2.2.1 (lw_tk hJ4 hHd.2.1) (show st.2 + 1 ≤ af tv T z by have := hzz.1; omega) (fun J5 hJ5 => ?_)
            obtain ⟨r5, hr5⟩ : ∃ r, anyF tv T (atoF tv T 6) st (af tv T z) = r := ⟨_, rfl⟩
            rw [show anyF tv T (atoF tv T 6) st (skp tv T (z + letN tv T z)) = r5 from hr5] at hJ5 ⊢
            have hre : cndF tv T st z = r5 := by unfold cndF; rw [if_pos h119]; exact hr5
            refine Cont.v ?_
            first | refine wp_ifneB (pc' := 129) rfl rfl ?_ ?_ | refine wp_ifne (pc' := 129) rfl rfl ?_ ?_
            · intro h126
              first | (obtain ⟨hLw5, p5, hp5, hJ5p, hz5⟩ := hJ5.2.2.2.1 h126; have hF5 := lf_t (lf_tk hJ4) (lf_lr hJ5)) | (rw [if_neg h119] at hJ4; have hre : cndF tv T st z = (true, st, z) := (by unfold cndF; rw [if_neg h119]); have hLw5 := lw_tk hJ4 hHd.2.1; have hJ5p := hJ4.2.2.1; have hF5 := lf_tk hJ4; have hp5 := hzz.2; have hz5 : skp tv T z = z := (by rw [← hze]; exact skp_sk hE.2.1))
              refine wp_aload0 (pc' := 132) rfl rfl ?_
              refine wp_getRF (pc' := 135) rfl rfl (by first | exact TK.k1 hT rfl | exact TK.kk hT rfl | exact TK.r hT rfl | assumption) (by first | exact TK.k1 hT rfl | exact TK.kk hT rfl | exact TK.r hT rfl | assumption) rfl ?_
              refine wp_iload2 (pc' := 136) rfl rfl ?_
              refine wp_iconst (v := nI 3) (pc' := 137) rfl rfl rfl ?_
              first | refine wp_iaddN (pc' := 138) rfl (by with_reducible rfl) (by with_reducible rfl) rfl ?_ | refine wp_iadd (pc' := 138) rfl rfl ?_
              refine wp_aload0 (pc' := 139) rfl rfl ?_
              refine wp_getI (pc' := 142) rfl rfl (by first | exact TK.k1 hT rfl | exact TK.kk hT rfl | exact TK.r hT rfl | assumption) rfl ?_
              rw [hLw5.2.1]
              refine wp_iast _ (pc' := 143) rfl (by first | exact TK.k1 hT rfl | exact TK.kk hT rfl | exact TK.r hT rfl | assumption) (by omega) (by with_reducible rfl) (by omega) (by first | decide | assumption | omega) rfl ?_
              refine wp_iconst (v := nI 1) (pc' := 144) rfl rfl rfl ?_
              refine wp_iret rfl rfl (by first | rfl | exact nar_if) ?_
              first | exact li_t (r := r5) h126 ((linR_r hhd).trans hre) hhd kk (ll_tr h126 (ll_mk hl hHd hF5 hLw5 hp5 hJ5p hz5)) | exact li_t (r := (true, st, z)) rfl ((linR_r hhd).trans hre) hhd kk (ll_mk hl hHd hF5 hLw5 hp5 hJ5p hz5)
            · intro h126
              refine wp_iconst (v := nI 0) (pc' := 130) rfl rfl rfl ?_
              refine wp_iret rfl rfl (by first | rfl | exact nar_if) ?_
              exact li_f (r := r5) (k := 0) (v := 0) h126 ((linR_r hhd).trans hre) kk ⟨fr_t hHd.1 (fr_t (fr_tk hJ4) (fr_lf hl (lf_lr hJ5))), fun z2 => absurd z2 h126, hJ5.2.2.2.2⟩
        · intro h90
          refine wp_iconst (v := nI 0) (pc' := 94) rfl rfl rfl ?_
          refine wp_iret rfl rfl (by first | rfl | exact nar_if) ?_
          have hN := num_neg hafT h90
          first | exact li_f (r := (false, st, af tv T q)) (k := 0) (v := 0) Bool.false_ne_true (linR_l (hedF_v (k := 0) (by unfold wd kinW; rw [pick_t h19]) hN)) kk (ll_f (fr_t (fr_up (Nat.le_refl _)) (fr_t (fr_tk hJ2) (fr_up (by omega)))) (by rw [up2_row (by decide)]; exact hJ2.2.2.2)) | exact li_f (r := (false, st, af tv T q)) (k := 0) (v := 0) Bool.false_ne_true (linR_l (hedF_v (k := 1) (by unfold wd kinW; rw [pick_f h19, pick_t h33]) hN)) kk (ll_f (fr_t (fr_up (Nat.le_refl _)) (fr_t (fr_tk hJ2) (fr_up (by omega)))) (by rw [up2_row (by decide)]; exact hJ2.2.2.2)) | exact li_f (r := (false, st, af tv T q)) (k := 0) (v := 0) Bool.false_ne_true (linR_l (hedF_v (k := 2) (by unfold wd kinW; rw [pick_f h19, pick_f h33, pick_t h47]) hN)) kk (ll_f (fr_t (fr_up (Nat.le_refl _)) (fr_t (fr_tk hJ2) (fr_up (by omega)))) (by rw [up2_row (by decide)]; exact hJ2.2.2.2))
    · intro h33
      refine wp_iconst (v := nI 1) (pc' := 37) rfl rfl rfl ?_
      refine wp_goto rfl ?_
      refine wp_iast _ (pc' := 56) rfl (by first | exact TK.k1 hT rfl | exact TK.kk hT rfl | exact TK.r hT rfl | assumption) (by omega) (by with_reducible rfl) (by omega) (by first | decide | assumption | omega) rfl ?_
      refine wp_aload0 (pc' := 57) rfl rfl ?_
      refine wp_getRF (pc' := 60) rfl rfl (by first | exact TK.k1 hT rfl | exact TK.kk hT rfl | exact TK.r hT rfl | assumption) (by first | exact TK.k1 hT rfl | exact TK.kk hT rfl | exact TK.r hT rfl | assumption) rfl ?_
      refine wp_iload2 (pc' := 61) rfl rfl ?_
      refine wp_iald _ (pc' := 62) rfl (by first | exact TK.k1 hT rfl | exact TK.kk hT rfl | exact TK.r hT rfl | assumption) (by with_reducible rfl) (by omega) (by first | decide | assumption | omega) rfl ?_
      rw [up2_hit]
      refine wp_ifgeT rfl (by decide) ?_
      refine wp_aload0 (pc' := 68) rfl rfl ?_
      refine wp_getRF (pc' := 71) rfl rfl (by first | exact TK.k1 hT rfl | exact TK.kk hT rfl | exact TK.r hT rfl | assumption) (by first | exact TK.k1 hT rfl | exact TK.kk hT rfl | exact TK.r hT rfl | assumption) rfl ?_
      refine wp_iload2 (pc' := 72) rfl rfl ?_
      refine wp_iconst (v := nI 1) (pc' := 73) rfl rfl rfl ?_
      first | refine wp_iaddN (pc' := 74) rfl (by with_reducible rfl) (by with_reducible rfl) rfl ?_ | refine wp_iadd (pc' := 74) rfl rfl ?_
      refine wp_aload0 (pc' := 75) rfl rfl ?_
      refine wp_iconst (v := nI 0) (pc' := 76) rfl rfl rfl ?_
      refine wp_bipush (v := nI 20) (pc' := 78) rfl rfl rfl ?_
      refine wp_callV3 (pc' := 81) rfl rfl rfl rfl rfl (by first | exact TK.k1 hT rfl | exact TK.kk hT rfl | exact TK.r hT rfl | assumption) rfl rfl ?_
      refine m_numberJ hT (fr_rd (fr_up (l := l) (Nat.le_refl _)) hR) (show q + letN tv T q ≤ T by omega) (by rw [up2_row (by decide)]; exact h10) (fun J2 e hE hJ2 => ?_)
      rw [show skp tv T (q + letN tv T q) = af tv T q from rfl] at hE hJ2 ⊢
      refine Cont.v ?_
      refine wp_iast _ (pc' := 82) rfl (by first | exact TK.k1 hT rfl | exact TK.kk hT rfl | exact TK.r hT rfl | assumption) (by omega) (by with_reducible rfl) (by omega) (by first | decide | assumption | omega) rfl ?_
      refine wp_aload0 (pc' := 83) rfl rfl ?_
      refine wp_getRF (pc' := 86) rfl rfl (by first | exact TK.k1 hT rfl | exact TK.kk hT rfl | exact TK.r hT rfl | assumption) (by first | exact TK.k1 hT rfl | exact TK.kk hT rfl | exact TK.r hT rfl | assumption) rfl ?_
      refine wp_iload2 (pc' := 87) rfl rfl ?_
      refine wp_iconst (v := nI 1) (pc' := 88) rfl rfl rfl ?_
      first | refine wp_iaddN (pc' := 89) rfl (by with_reducible rfl) (by with_reducible rfl) rfl ?_ | refine wp_iadd (pc' := 89) rfl rfl ?_
      refine wp_iald _ (pc' := 90) rfl (by first | exact TK.k1 hT rfl | exact TK.kk hT rfl | exact TK.r hT rfl | assumption) (by with_reducible rfl) (by omega) (by first | decide | assumption | omega) rfl ?_
      rw [up2_hit]
      refine wp_ifge (pc' := 93) rfl rfl ?_ ?_
      · intro h90
        obtain ⟨v, z, hN, -, -, -, -, hzT⟩ := num_pos hafT h90
        rw [hN, show numV (some (v, z)) = nI v from rfl]
        have hze := (hE.2.2 v z hN).symm
        have hzz := num_gt hafT hN
        first | (have hkw : wd tv T q kinW = some 0 := (by unfold wd kinW; rw [pick_t h19]); have hHd := hd_mk (k := 0) (v := v) hl hD h16 hJ2; have hhd := hedF_s hkw hN) | (have hkw : wd tv T q kinW = some 1 := (by unfold wd kinW; rw [pick_f h19, pick_t h33]); have hHd := hd_mk (k := 1) (v := v) hl hD h16 hJ2; have hhd := hedF_s hkw hN) | (have hkw : wd tv T q kinW = some 2 := (by unfold wd kinW; rw [pick_f h19, pick_f h33, pick_t h47]); have hHd := hd_mk (k := 2) (v := v) hl hD h16 hJ2; have hhd := hedF_s hkw hN)
        refine wp_aload0 (pc' := 96) rfl rfl ?_
        refine wp_getRF (pc' := 99) rfl rfl (by first | exact TK.k1 hT rfl | exact TK.kk hT rfl | exact TK.r hT rfl | assumption) (by first | exact TK.k1 hT rfl | exact TK.kk hT rfl | exact TK.r hT rfl | assumption) rfl ?_
        refine wp_iload2 (pc' := 100) rfl rfl ?_
        refine wp_iconst (v := nI 2) (pc' := 101) rfl rfl rfl ?_
        first | refine wp_iaddN (pc' := 102) rfl (by with_reducible rfl) (by with_reducible rfl) rfl ?_ | refine wp_iadd (pc' := 102) rfl rfl ?_
        refine wp_aload0 (pc' := 103) rfl rfl ?_
        refine wp_getI (pc' := 106) rfl rfl (by first | exact TK.k1 hT rfl | exact TK.kk hT rfl | exact TK.r hT rfl | assumption) rfl ?_
        rw [up2_row (show (318 : Nat) ≠ 319 by decide), hJ2.2.1 16 (by decide) (by decide), up2_row (show (318 : Nat) ≠ 319 by decide), h16]
        refine wp_iast _ (pc' := 107) rfl (by first | exact TK.k1 hT rfl | exact TK.kk hT rfl | exact TK.r hT rfl | assumption) (by omega) (by with_reducible rfl) (by omega) (by first | decide | assumption | omega) rfl ?_
        refine wp_aload0 (pc' := 108) rfl rfl ?_
        refine wp_iconst (v := nI 0) (pc' := 109) rfl rfl rfl ?_
        refine wp_putI (pc' := 112) rfl rfl (by first | exact TK.k1 hT rfl | exact TK.kk hT rfl | exact TK.r hT rfl | assumption) (by omega) rfl ?_
        refine wp_aload0 (pc' := 113) rfl rfl ?_
        refine wp_pool (v := .ref (lmB + 94)) (pc' := 116) rfl rfl rfl rfl rfl ?_
        refine wp_callV2 (pc' := 119) rfl rfl rfl rfl rfl (by first | exact TK.k1 hT rfl | exact TK.kk hT rfl | exact TK.r hT rfl | assumption) rfl rfl ?_
        refine m_passesJ (w := 47) kIf hT (fr_rd hHd.1 hR) hE.2.1 (by rw [up2_same, if_neg (by decide), up2_row (by decide), up2_row (by decide)]; exact hJ2.2.2.1) (fr_ss hHd.1 hS) (by decide) (by decide) (fun J4 hJ4 => ?_)
        rw [hze] at hJ4 ⊢
        refine Cont.v ?_
        first | refine wp_ifeqB (pc' := 122) rfl rfl ?_ ?_ | refine wp_ifeq (pc' := 122) rfl rfl ?_ ?_
        · intro h119
          first | (obtain ⟨hLw5, p5, hp5, hJ5p, hz5⟩ := hJ5.2.2.2.1 h126; have hF5 := lf_t (lf_tk hJ4) (lf_lr hJ5)) | (rw [if_neg h119] at hJ4; have hre : cndF tv T st z = (true, st, z) := (by unfold cndF; rw [if_neg h119]); have hLw5 := lw_tk hJ4 hHd.2.1; have hJ5p := hJ4.2.2.1; have hF5 := lf_tk hJ4; have hp5 := hzz.2; have hz5 : skp tv T z = z := (by rw [← hze]; exact skp_sk hE.2.1))
          refine wp_aload0 (pc' := 132) rfl rfl ?_
          refine wp_getRF (pc' := 135) rfl rfl (by first | exact TK.k1 hT rfl | exact TK.kk hT rfl | exact TK.r hT rfl | assumption) (by first | exact TK.k1 hT rfl | exact TK.kk hT rfl | exact TK.r hT rfl | assumption) rfl ?_
          refine wp_iload2 (pc' := 136) rfl rfl ?_
          refine wp_iconst (v := nI 3) (pc' := 137) rfl rfl rfl ?_
          first | refine wp_iaddN (pc' := 138) rfl (by with_reducible rfl) (by with_reducible rfl) rfl ?_ | refine wp_iadd (pc' := 138) rfl rfl ?_
          refine wp_aload0 (pc' := 139) rfl rfl ?_
          refine wp_getI (pc' := 142) rfl rfl (by first | exact TK.k1 hT rfl | exact TK.kk hT rfl | exact TK.r hT rfl | assumption) rfl ?_
          rw [hLw5.2.1]
          refine wp_iast _ (pc' := 143) rfl (by first | exact TK.k1 hT rfl | exact TK.kk hT rfl | exact TK.r hT rfl | assumption) (by omega) (by with_reducible rfl) (by omega) (by first | decide | assumption | omega) rfl ?_
          refine wp_iconst (v := nI 1) (pc' := 144) rfl rfl rfl ?_
          refine wp_iret rfl rfl (by first | rfl | exact nar_if) ?_
          first | exact li_t (r := r5) h126 ((linR_r hhd).trans hre) hhd kk (ll_tr h126 (ll_mk hl hHd hF5 hLw5 hp5 hJ5p hz5)) | exact li_t (r := (true, st, z)) rfl ((linR_r hhd).trans hre) hhd kk (ll_mk hl hHd hF5 hLw5 hp5 hJ5p hz5)
        · intro h119
          refine wp_aload0 (pc' := 123) rfl rfl ?_
          refine wp_callV1 (pc' := 126) rfl rfl rfl rfl rfl (by first | exact TK.k1 hT rfl | exact TK.kk hT rfl | exact TK.r hT rfl | assumption) rfl rfl ?_
          rw [if_pos h119] at hJ4
          have haf := af_gt (tv := tv) (T := T) hzz.2
          have hlz := letN_le (tv := tv) (T := T) (p := z)
          refine m_readCond hT _ _ st (z + letN tv T z) _ (tk_rd hJ4 (fr_rd hHd.1 hR)) (tk_ss hJ4 (fr_ss hHd.1 hS)) (by have := hzz.2; omega) hJ4.2.2.1 (lw_tk hJ4 hHd.2.1) (show st.2 + 1 ≤ af tv T z by have := hzz.1; omega) (fun J5 hJ5 => ?_)
          obtain ⟨r5, hr5⟩ : ∃ r, anyF tv T (atoF tv T 6) st (af tv T z) = r := ⟨_, rfl⟩
          rw [show anyF tv T (atoF tv T 6) st (skp tv T (z + letN tv T z)) = r5 from hr5] at hJ5 ⊢
          have hre : cndF tv T st z = r5 := by unfold cndF; rw [if_pos h119]; exact hr5
          refine Cont.v ?_
          first | refine wp_ifneB (pc' := 129) rfl rfl ?_ ?_ | refine wp_ifne (pc' := 129) rfl rfl ?_ ?_
          · intro h126
            first | (obtain ⟨hLw5, p5, hp5, hJ5p, hz5⟩ := hJ5.2.2.2.1 h126; have hF5 := lf_t (lf_tk hJ4) (lf_lr hJ5)) | (rw [if_neg h119] at hJ4; have hre : cndF tv T st z = (true, st, z) := (by unfold cndF; rw [if_neg h119]); have hLw5 := lw_tk hJ4 hHd.2.1; have hJ5p := hJ4.2.2.1; have hF5 := lf_tk hJ4; have hp5 := hzz.2; have hz5 : skp tv T z = z := (by rw [← hze]; exact skp_sk hE.2.1))
            refine wp_aload0 (pc' := 132) rfl rfl ?_
            refine wp_getRF (pc' := 135) rfl rfl (by first | exact TK.k1 hT rfl | exact TK.kk hT rfl | exact TK.r hT rfl | assumption) (by first | exact TK.k1 hT rfl | exact TK.kk hT rfl | exact TK.r hT rfl | assumption) rfl ?_
            refine wp_iload2 (pc' := 136) rfl rfl ?_
            refine wp_iconst (v := nI 3) (pc' := 137) rfl rfl rfl ?_
            first | refine wp_iaddN (pc' := 138) rfl (by with_reducible rfl) (by with_reducible rfl) rfl ?_ | refine wp_iadd (pc' := 138) rfl rfl ?_
            refine wp_aload0 (pc' := 139) rfl rfl ?_
            refine wp_getI (pc' := 142) rfl rfl (by first | exact TK.k1 hT rfl | exact TK.kk hT rfl | exact TK.r hT rfl | assumption) rfl ?_
            rw [hLw5.2.1]
            refine wp_iast _ (pc' := 143) rfl (by first | exact TK.k1 hT rfl | exact TK.kk hT rfl | exact TK.r hT rfl | assumption) (by omega) (by with_reducible rfl) (by omega) (by first | decide | assumption | omega) rfl ?_
            refine wp_iconst (v := nI 1) (pc' := 144) rfl rfl rfl ?_
            refine wp_iret rfl rfl (by first | rfl | exact nar_if) ?_
            first | exact li_t (r := r5) h126 ((linR_r hhd).trans hre) hhd kk (ll_tr h126 (ll_mk hl hHd hF5 hLw5 hp5 hJ5p hz5)) | exact li_t (r := (true, st, z)) rfl ((linR_r hhd).trans hre) hhd kk (ll_mk hl hHd hF5 hLw5 hp5 hJ5p hz5)
          · intro h126
            refine wp_iconst (v := nI 0) (pc' := 130) rfl rfl rfl ?_
            refine wp_iret rfl rfl (by first | rfl | exact nar_if) ?_
            exact li_f (r := r5) (k := 0) (v := 0) h126 ((linR_r hhd).trans hre) kk ⟨fr_t hHd.1 (fr_t (fr_tk hJ4) (fr_lf hl (lf_lr hJ5))), fun z2 => absurd z2 h126, hJ5.2.2.2.2⟩
      · intro h90
        refine wp_iconst (v := nI 0) (pc' := 94) rfl rfl rfl ?_
        refine wp_iret rfl rfl (by first | rfl | exact nar_if) ?_
        have hN := num_neg hafT h90
        first | exact li_f (r := (false, st, af tv T q)) (k := 0) (v := 0) Bool.false_ne_true (linR_l (hedF_v (k := 0) (by unfold wd kinW; rw [pick_t h19]) hN)) kk (ll_f (fr_t (fr_up (Nat.le_refl _)) (fr_t (fr_tk hJ2) (fr_up (by omega)))) (by rw [up2_row (by decide)]; exact hJ2.2.2.2)) | exact li_f (r := (false, st, af tv T q)) (k := 0) (v := 0) Bool.false_ne_true (linR_l (hedF_v (k := 1) (by unfold wd kinW; rw [pick_f h19, pick_t h33]) hN)) kk (ll_f (fr_t (fr_up (Nat.le_refl _)) (fr_t (fr_tk hJ2) (fr_up (by omega)))) (by rw [up2_row (by decide)]; exact hJ2.2.2.2)) | exact li_f (r := (false, st, af tv T q)) (k := 0) (v := 0) Bool.false_ne_true (linR_l (hedF_v (k := 2) (by unfold wd kinW; rw [pick_f h19, pick_f h33, pick_t h47]) hN)) kk (ll_f (fr_t (fr_up (Nat.le_refl _)) (fr_t (fr_tk hJ2) (fr_up (by omega)))) (by rw [up2_row (by decide)]; exact hJ2.2.2.2))
  · intro h19
    refine wp_iconst (v := nI 0) (pc' := 23) rfl rfl rfl ?_
    refine wp_goto rfl ?_
    refine wp_iast _ (pc' := 56) rfl (by first | exact TK.k1 hT rfl | exact TK.kk hT rfl | exact TK.r hT rfl | assumption) (by omega) (by with_reducible rfl) (by omega) (by first | decide | assumption | omega) rfl ?_
    refine wp_aload0 (pc' := 57) rfl rfl ?_
    refine wp_getRF (pc' := 60) rfl rfl (by first | exact TK.k1 hT rfl | exact TK.kk hT rfl | exact TK.r hT rfl | assumption) (by first | exact TK.k1 hT rfl | exact TK.kk hT rfl | exact TK.r hT rfl | assumption) rfl ?_
    refine wp_iload2 (pc' := 61) rfl rfl ?_
    refine wp_iald _ (pc' := 62) rfl (by first | exact TK.k1 hT rfl | exact TK.kk hT rfl | exact TK.r hT rfl | assumption) (by with_reducible rfl) (by omega) (by first | decide | assumption | omega) rfl ?_
    rw [up2_hit]
    refine wp_ifgeT rfl (by decide) ?_
    refine wp_aload0 (pc' := 68) rfl rfl ?_
    refine wp_getRF (pc' := 71) rfl rfl (by first | exact TK.k1 hT rfl | exact TK.kk hT rfl | exact TK.r hT rfl | assumption) (by first | exact TK.k1 hT rfl | exact TK.kk hT rfl | exact TK.r hT rfl | assumption) rfl ?_
    refine wp_iload2 (pc' := 72) rfl rfl ?_
    refine wp_iconst (v := nI 1) (pc' := 73) rfl rfl rfl ?_
    first | refine wp_iaddN (pc' := 74) rfl (by with_reducible rfl) (by with_reducible rfl) rfl ?_ | refine wp_iadd (pc' := 74) rfl rfl ?_
    refine wp_aload0 (pc' := 75) rfl rfl ?_
    refine wp_iconst (v := nI 0) (pc' := 76) rfl rfl rfl ?_
    refine wp_bipush (v := nI 20) (pc' := 78) rfl rfl rfl ?_
    refine wp_callV3 (pc' := 81) rfl rfl rfl rfl rfl (by first | exact TK.k1 hT rfl | exact TK.kk hT rfl | exact TK.r hT rfl | assumption) rfl rfl ?_
    refine m_numberJ hT (fr_rd (fr_up (l := l) (Nat.le_refl _)) hR) (show q + letN tv T q ≤ T by omega) (by rw [up2_row (by decide)]; exact h10) (fun J2 e hE hJ2 => ?_)
    rw [show skp tv T (q + letN tv T q) = af tv T q from rfl] at hE hJ2 ⊢
    refine Cont.v ?_
    refine wp_iast _ (pc' := 82) rfl (by first | exact TK.k1 hT rfl | exact TK.kk hT rfl | exact TK.r hT rfl | assumption) (by omega) (by with_reducible rfl) (by omega) (by first | decide | assumption | omega) rfl ?_
    refine wp_aload0 (pc' := 83) rfl rfl ?_
    refine wp_getRF (pc' := 86) rfl rfl (by first | exact TK.k1 hT rfl | exact TK.kk hT rfl | exact TK.r hT rfl | assumption) (by first | exact TK.k1 hT rfl | exact TK.kk hT rfl | exact TK.r hT rfl | assumption) rfl ?_
    refine wp_iload2 (pc' := 87) rfl rfl ?_
    refine wp_iconst (v := nI 1) (pc' := 88) rfl rfl rfl ?_
    first | refine wp_iaddN (pc' := 89) rfl (by with_reducible rfl) (by with_reducible rfl) rfl ?_ | refine wp_iadd (pc' := 89) rfl rfl ?_
    refine wp_iald _ (pc' := 90) rfl (by first | exact TK.k1 hT rfl | exact TK.kk hT rfl | exact TK.r hT rfl | assumption) (by with_reducible rfl) (by omega) (by first | decide | assumption | omega) rfl ?_
    rw [up2_hit]
    refine wp_ifge (pc' := 93) rfl rfl ?_ ?_
    · intro h90
      obtain ⟨v, z, hN, -, -, -, -, hzT⟩ := num_pos hafT h90
      rw [hN, show numV (some (v, z)) = nI v from rfl]
      have hze := (hE.2.2 v z hN).symm
      have hzz := num_gt hafT hN
      first | (have hkw : wd tv T q kinW = some 0 := (by unfold wd kinW; rw [pick_t h19]); have hHd := hd_mk (k := 0) (v := v) hl hD h16 hJ2; have hhd := hedF_s hkw hN) | (have hkw : wd tv T q kinW = some 1 := (by unfold wd kinW; rw [pick_f h19, pick_t h33]); have hHd := hd_mk (k := 1) (v := v) hl hD h16 hJ2; have hhd := hedF_s hkw hN) | (have hkw : wd tv T q kinW = some 2 := (by unfold wd kinW; rw [pick_f h19, pick_f h33, pick_t h47]); have hHd := hd_mk (k := 2) (v := v) hl hD h16 hJ2; have hhd := hedF_s hkw hN)
      refine wp_aload0 (pc' := 96) rfl rfl ?_
      refine wp_getRF (pc' := 99) rfl rfl (by first | exact TK.k1 hT rfl | exact TK.kk hT rfl | exact TK.r hT rfl | assumption) (by first | exact TK.k1 hT rfl | exact TK.kk hT rfl | exact TK.r hT rfl | assumption) rfl ?_
      refine wp_iload2 (pc' := 100) rfl rfl ?_
      refine wp_iconst (v := nI 2) (pc' := 101) rfl rfl rfl ?_
      first | refine wp_iaddN (pc' := 102) rfl (by with_reducible rfl) (by with_reducible rfl) rfl ?_ | refine wp_iadd (pc' := 102) rfl rfl ?_
      refine wp_aload0 (pc' := 103) rfl rfl ?_
      refine wp_getI (pc' := 106) rfl rfl (by first | exact TK.k1 hT rfl | exact TK.kk hT rfl | exact TK.r hT rfl | assumption) rfl ?_
      rw [up2_row (show (318 : Nat) ≠ 319 by decide), hJ2.2.1 16 (by decide) (by decide), up2_row (show (318 : Nat) ≠ 319 by decide), h16]
      refine wp_iast _ (pc' := 107) rfl (by first | exact TK.k1 hT rfl | exact TK.kk hT rfl | exact TK.r hT rfl | assumption) (by omega) (by with_reducible rfl) (by omega) (by first | decide | assumption | omega) rfl ?_
      refine wp_aload0 (pc' := 108) rfl rfl ?_
      refine wp_iconst (v := nI 0) (pc' := 109) rfl rfl rfl ?_
      refine wp_putI (pc' := 112) rfl rfl (by first | exact TK.k1 hT rfl | exact TK.kk hT rfl | exact TK.r hT rfl | assumption) (by omega) rfl ?_
      refine wp_aload0 (pc' := 113) rfl rfl ?_
      refine wp_pool (v := .ref (lmB + 94)) (pc' := 116) rfl rfl rfl rfl rfl ?_
      refine wp_callV2 (pc' := 119) rfl rfl rfl rfl rfl (by first | exact TK.k1 hT rfl | exact TK.kk hT rfl | exact TK.r hT rfl | assumption) rfl rfl ?_
      refine m_passesJ (w := 47) kIf hT (fr_rd hHd.1 hR) hE.2.1 (by rw [up2_same, if_neg (by decide), up2_row (by decide), up2_row (by decide)]; exact hJ2.2.2.1) (fr_ss hHd.1 hS) (by decide) (by decide) (fun J4 hJ4 => ?_)
      rw [hze] at hJ4 ⊢
      refine Cont.v ?_
      first | refine wp_ifeqB (pc' := 122) rfl rfl ?_ ?_ | refine wp_ifeq (pc' := 122) rfl rfl ?_ ?_
      · intro h119
        first | (obtain ⟨hLw5, p5, hp5, hJ5p, hz5⟩ := hJ5.2.2.2.1 h126; have hF5 := lf_t (lf_tk hJ4) (lf_lr hJ5)) | (rw [if_neg h119] at hJ4; have hre : cndF tv T st z = (true, st, z) := (by unfold cndF; rw [if_neg h119]); have hLw5 := lw_tk hJ4 hHd.2.1; have hJ5p := hJ4.2.2.1; have hF5 := lf_tk hJ4; have hp5 := hzz.2; have hz5 : skp tv T z = z := (by rw [← hze]; exact skp_sk hE.2.1))
        refine wp_aload0 (pc' := 132) rfl rfl ?_
        refine wp_getRF (pc' := 135) rfl rfl (by first | exact TK.k1 hT rfl | exact TK.kk hT rfl | exact TK.r hT rfl | assumption) (by first | exact TK.k1 hT rfl | exact TK.kk hT rfl | exact TK.r hT rfl | assumption) rfl ?_
        refine wp_iload2 (pc' := 136) rfl rfl ?_
        refine wp_iconst (v := nI 3) (pc' := 137) rfl rfl rfl ?_
        first | refine wp_iaddN (pc' := 138) rfl (by with_reducible rfl) (by with_reducible rfl) rfl ?_ | refine wp_iadd (pc' := 138) rfl rfl ?_
        refine wp_aload0 (pc' := 139) rfl rfl ?_
        refine wp_getI (pc' := 142) rfl rfl (by first | exact TK.k1 hT rfl | exact TK.kk hT rfl | exact TK.r hT rfl | assumption) rfl ?_
        rw [hLw5.2.1]
        refine wp_iast _ (pc' := 143) rfl (by first | exact TK.k1 hT rfl | exact TK.kk hT rfl | exact TK.r hT rfl | assumption) (by omega) (by with_reducible rfl) (by omega) (by first | decide | assumption | omega) rfl ?_
        refine wp_iconst (v := nI 1) (pc' := 144) rfl rfl rfl ?_
        refine wp_iret rfl rfl (by first | rfl | exact nar_if) ?_
        first | exact li_t (r := r5) h126 ((linR_r hhd).trans hre) hhd kk (ll_tr h126 (ll_mk hl hHd hF5 hLw5 hp5 hJ5p hz5)) | exact li_t (r := (true, st, z)) rfl ((linR_r hhd).trans hre) hhd kk (ll_mk hl hHd hF5 hLw5 hp5 hJ5p hz5)
      · intro h119
        refine wp_aload0 (pc' := 123) rfl rfl ?_
        refine wp_callV1 (pc' := 126) rfl rfl rfl rfl rfl (by first | exact TK.k1 hT rfl | exact TK.kk hT rfl | exact TK.r hT rfl | assumption) rfl rfl ?_
        rw [if_pos h119] at hJ4
        have haf := af_gt (tv := tv) (T := T) hzz.2
        have hlz := letN_le (tv := tv) (T := T) (p := z)
        refine m_readCond hT _ _ st (z + letN tv T z) _ (tk_rd hJ4 (fr_rd hHd.1 hR)) (tk_ss hJ4 (fr_ss hHd.1 hS)) (by have := hzz.2; omega) hJ4.2.2.1 (lw_tk hJ4 hHd.2.1) (show st.2 + 1 ≤ af tv T z by have := hzz.1; omega) (fun J5 hJ5 => ?_)
        obtain ⟨r5, hr5⟩ : ∃ r, anyF tv T (atoF tv T 6) st (af tv T z) = r := ⟨_, rfl⟩
        rw [show anyF tv T (atoF tv T 6) st (skp tv T (z + letN tv T z)) = r5 from hr5] at hJ5 ⊢
        have hre : cndF tv T st z = r5 := by unfold cndF; rw [if_pos h119]; exact hr5
        refine Cont.v ?_
        first | refine wp_ifneB (pc' := 129) rfl rfl ?_ ?_ | refine wp_ifne (pc' := 129) rfl rfl ?_ ?_
        · intro h126
          first | (obtain ⟨hLw5, p5, hp5, hJ5p, hz5⟩ := hJ5.2.2.2.1 h126; have hF5 := lf_t (lf_tk hJ4) (lf_lr hJ5)) | (rw [if_neg h119] at hJ4; have hre : cndF tv T st z = (true, st, z) := (by unfold cndF; rw [if_neg h119]); have hLw5 := lw_tk hJ4 hHd.2.1; have hJ5p := hJ4.2.2.1; have hF5 := lf_tk hJ4; have hp5 := hzz.2; have hz5 : skp tv T z = z := (by rw [← hze]; exact skp_sk hE.2.1))
          refine wp_aload0 (pc' := 132) rfl rfl ?_
          refine wp_getRF (pc' := 135) rfl rfl (by first | exact TK.k1 hT rfl | exact TK.kk hT rfl | exact TK.r hT rfl | assumption) (by first | exact TK.k1 hT rfl | exact TK.kk hT rfl | exact TK.r hT rfl | assumption) rfl ?_
          refine wp_iload2 (pc' := 136) rfl rfl ?_
          refine wp_iconst (v := nI 3) (pc' := 137) rfl rfl rfl ?_
          first | refine wp_iaddN (pc' := 138) rfl (by with_reducible rfl) (by with_reducible rfl) rfl ?_ | refine wp_iadd (pc' := 138) rfl rfl ?_
          refine wp_aload0 (pc' := 139) rfl rfl ?_
          refine wp_getI (pc' := 142) rfl rfl (by first | exact TK.k1 hT rfl | exact TK.kk hT rfl | exact TK.r hT rfl | assumption) rfl ?_
          rw [hLw5.2.1]
          refine wp_iast _ (pc' := 143) rfl (by first | exact TK.k1 hT rfl | exact TK.kk hT rfl | exact TK.r hT rfl | assumption) (by omega) (by with_reducible rfl) (by omega) (by first | decide | assumption | omega) rfl ?_
          refine wp_iconst (v := nI 1) (pc' := 144) rfl rfl rfl ?_
          refine wp_iret rfl rfl (by first | rfl | exact nar_if) ?_
          first | exact li_t (r := r5) h126 ((linR_r hhd).trans hre) hhd kk (ll_tr h126 (ll_mk hl hHd hF5 hLw5 hp5 hJ5p hz5)) | exact li_t (r := (true, st, z)) rfl ((linR_r hhd).trans hre) hhd kk (ll_mk hl hHd hF5 hLw5 hp5 hJ5p hz5)
        · intro h126
          refine wp_iconst (v := nI 0) (pc' := 130) rfl rfl rfl ?_
          refine wp_iret rfl rfl (by first | rfl | exact nar_if) ?_
          exact li_f (r := r5) (k := 0) (v := 0) h126 ((linR_r hhd).trans hre) kk ⟨fr_t hHd.1 (fr_t (fr_tk hJ4) (fr_lf hl (lf_lr hJ5))), fun z2 => absurd z2 h126, hJ5.2.2.2.2⟩
    · intro h90
      refine wp_iconst (v := nI 0) (pc' := 94) rfl rfl rfl ?_
      refine wp_iret rfl rfl (by first | rfl | exact nar_if) ?_
      have hN := num_neg hafT h90
      first | exact li_f (r := (false, st, af tv T q)) (k := 0) (v := 0) Bool.false_ne_true (linR_l (hedF_v (k := 0) (by unfold wd kinW; rw [pick_t h19]) hN)) kk (ll_f (fr_t (fr_up (Nat.le_refl _)) (fr_t (fr_tk hJ2) (fr_up (by omega)))) (by rw [up2_row (by decide)]; exact hJ2.2.2.2)) | exact li_f (r := (false, st, af tv T q)) (k := 0) (v := 0) Bool.false_ne_true (linR_l (hedF_v (k := 1) (by unfold wd kinW; rw [pick_f h19, pick_t h33]) hN)) kk (ll_f (fr_t (fr_up (Nat.le_refl _)) (fr_t (fr_tk hJ2) (fr_up (by omega)))) (by rw [up2_row (by decide)]; exact hJ2.2.2.2)) | exact li_f (r := (false, st, af tv T q)) (k := 0) (v := 0) Bool.false_ne_true (linR_l (hedF_v (k := 2) (by unfold wd kinW; rw [pick_f h19, pick_f h33, pick_t h47]) hN)) kk (ll_f (fr_t (fr_up (Nat.le_refl _)) (fr_t (fr_tk hJ2) (fr_up (by omega)))) (by rw [up2_row (by decide)]; exact hJ2.2.2.2))
