/-! THE REFERENCE: a law's text: sums -/
def tk1 (v : Int32) : Int32 := if v < nI 1000 then nI 10 else if v = nI 1010 then nI 14 else if v = nI 1014 then nI 15 else if v = nI 1015 then nI 16 else v - nI 1000
def tk2 (v : Int32) : Int32 := if v < nI 1000 then v else nI 0
theorem tk_num {v : Nat} (h : v < 1000) : tk1 (nI v) = nI 10 ∧ tk2 (nI v) = nI v := ⟨if_pos (nI_lt h (by omega)), if_pos (nI_lt h (by omega))⟩
theorem tk_w : ∀ k : Fin 10, tk1 (nI (1000 + k.1)) = nI k.1 ∧ tk2 (nI (1000 + k.1)) = nI 0 := by decide +kernel
theorem tk_s : tk1 (nI 1010) = nI 14 ∧ tk1 (nI 1011) = nI 11 ∧ tk1 (nI 1012) = nI 12 ∧ tk1 (nI 1013) = nI 13 ∧ tk1 (nI 1014) = nI 15 ∧ tk1 (nI 1015) = nI 16 ∧ tk2 (nI 1010) = nI 0 ∧ tk2 (nI 1011) = nI 0 ∧ tk2 (nI 1012) = nI 0 ∧ tk2 (nI 1013) = nI 0 ∧ tk2 (nI 1014) = nI 0 ∧ tk2 (nI 1015) = nI 0 := by decide +kernel
/-- the codes as they lie in the world's draft -/
def DrS (w : Nat → Int32) (st : Sz) : Prop := ∀ i, i < st.2 → w (1381 + 2 * i) = tk1 (st.1 i) ∧ w (1381 + 2 * i + 1) = tk2 (st.1 i)
def LwS (I : Mem) (st : Sz) (dp : Nat) : Prop := DrS (I 319) st ∧ I 318 16 = nI st.2 ∧ I 318 13 = nI dp
def EmJ (I J : Mem) (z : Nat) (x y : Int32) : Prop := (∀ a, a ≠ 318 → a ≠ 319 → J a = I a) ∧ (∀ j, j ≠ 1381 + 2 * z → j ≠ 1381 + 2 * z + 1 → J 319 j = I 319 j) ∧ J 319 (1381 + 2 * z) = x ∧ J 319 (1381 + 2 * z + 1) = y ∧ (∀ j, j ≠ 16 → J 318 j = I 318 j) ∧ J 318 16 = nI (z + 1)
theorem em_put {I J : Mem} {st : Sz} {v : Int32} (h : DrS (I 319) st) (hz : st.2 < 400) (g : EmJ I J st.2 (tk1 v) (tk2 v)) : DrS (J 319) (putS st v) ∧ J 318 16 = nI (putS st v).2 ∧ (putS st v).2 = st.2 + 1 := by
  unfold putS
  rw [if_pos hz]
  refine ⟨fun i hi => ?_, g.2.2.2.2.2, rfl⟩
  have hi2 : i < st.2 + 1 := hi
  show J 319 (1381 + 2 * i) = tk1 (up1 st.1 st.2 v i) ∧ J 319 (1381 + 2 * i + 1) = tk2 (up1 st.1 st.2 v i)
  by_cases e : i = st.2
  · subst e
    rw [up1_hit]; exact ⟨g.2.2.1, g.2.2.2.1⟩
  · rw [up1_ne e, g.2.1 _ (by omega) (by omega), g.2.1 _ (by omega) (by omega)]
    exact h i (by omega)
/-- what a reader of a law's text leaves -/
def LrJ (T : Nat) (tv : Nat → Nat) (I : Mem) (dp : Nat) (r : Re) (J : Mem) : Prop := (∀ a, a ≠ 318 → a ≠ 319 → J a = I a) ∧ (∀ j, j < 1381 → J 319 j = I 319 j) ∧ (∀ j, j ≠ 10 → j ≠ 12 → j ≠ 13 → j ≠ 16 → J 318 j = I 318 j) ∧ (r.1 = true → LwS J r.2.1 dp ∧ ∃ p, p ≤ T ∧ J 318 10 = nI p ∧ skp tv T p = r.2.2) ∧ (r.1 = false → J 318 12 = nI r.2.2)
/-- the same, as a frame -/
def LfJ (I J : Mem) : Prop := (∀ a, a ≠ 318 → a ≠ 319 → J a = I a) ∧ (∀ j, j < 1381 → J 319 j = I 319 j) ∧ (∀ j, j ≠ 10 → j ≠ 12 → j ≠ 13 → j ≠ 16 → J 318 j = I 318 j)
theorem lf_r {I : Mem} : LfJ I I := ⟨fun _ _ _ => rfl, fun _ _ => rfl, fun _ _ _ _ _ => rfl⟩
theorem lf_t {I J N : Mem} (h : LfJ I J) (g : LfJ J N) : LfJ I N := ⟨fun a a1 a2 => (g.1 a a1 a2).trans (h.1 a a1 a2), fun j a1 => (g.2.1 j a1).trans (h.2.1 j a1), fun j a1 a2 a3 a4 => (g.2.2 j a1 a2 a3 a4).trans (h.2.2 j a1 a2 a3 a4)⟩
theorem lf_tk {I J : Mem} {p b : Nat} (h : TkJ I J p b) : LfJ I J := ⟨fun a a1 _ => h.1 a a1, fun j _ => by rw [h.1 319 (by decide)], fun j a1 a2 _ _ => h.2.1 j a1 a2⟩
theorem lf_em {I J : Mem} {z : Nat} {x y : Int32} (h : EmJ I J z x y) : LfJ I J := ⟨h.1, fun j hj => h.2.1 j (by omega) (by omega), fun j _ _ _ a4 => h.2.2.2.2.1 j a4⟩
theorem lf_lr {T dp : Nat} {tv : Nat → Nat} {I J : Mem} {r : Re} (h : LrJ T tv I dp r J) : LfJ I J := ⟨h.1, h.2.1, h.2.2.1⟩
theorem lf_rd {I J : Mem} {T : Nat} {tv : Nat → Nat} (h : LfJ I J) (hR : RfI I T tv) : RfI J T tv := ⟨by rw [h.2.2 11 (by decide) (by decide) (by decide) (by decide)]; exact hR.1, hR.2.1, by rw [h.1 324 (by decide) (by decide)]; exact hR.2.2⟩
theorem lf_ss {K : Nat → Nat × Nat} {R : Nat → Nat → Option Nat} {I J : Mem} (h : LfJ I J) (hS : SS K I R) : SS K J R := SS_off hS (fun a ha => h.1 a (by unfold lmB at ha; omega) (by unfold lmB at ha; omega))
theorem lw_tk {I J : Mem} {p b dp : Nat} {st : Sz} (h : TkJ I J p b) (g : LwS I st dp) : LwS J st dp := ⟨by rw [h.1 319 (by decide)]; exact g.1, by rw [h.2.1 16 (by decide) (by decide)]; exact g.2.1, by rw [h.2.1 13 (by decide) (by decide)]; exact g.2.2⟩
theorem lw_em {I J : Mem} {dp : Nat} {st : Sz} {v : Int32} (g : LwS I st dp) (hz : st.2 < 400) (h : EmJ I J st.2 (tk1 v) (tk2 v)) : LwS J (putS st v) dp ∧ (putS st v).2 = st.2 + 1 := by
  have a := em_put g.1 hz h
  exact ⟨⟨a.1, a.2.1, by rw [h.2.2.2.2.1 13 (by decide)]; exact g.2.2⟩, a.2.2⟩
theorem lr_t {T dp : Nat} {tv : Nat → Nat} {I J : Mem} {st : Sz} {p z : Nat} (h : LfJ I J) (g : LwS J st dp) (hp : p ≤ T) (h10 : J 318 10 = nI p) (hz : skp tv T p = z) : LrJ T tv I dp (true, st, z) J := ⟨h.1, h.2.1, h.2.2, fun _ => ⟨g, p, hp, h10, hz⟩, fun q => absurd (show true = false from q) (by decide)⟩
theorem lr_f {T dp : Nat} {tv : Nat → Nat} {I J : Mem} {st : Sz} {z : Nat} (h : LfJ I J) (h12 : J 318 12 = nI z) : LrJ T tv I dp (false, st, z) J := ⟨h.1, h.2.1, h.2.2, fun q => absurd (show false = true from q) (by decide), fun _ => h12⟩
theorem lr_x {T dp : Nat} {tv : Nat → Nat} {I J N : Mem} {r : Re} (h : LfJ I J) (g : LrJ T tv J dp r N) : LrJ T tv I dp r N := ⟨(lf_t h (lf_lr g)).1, (lf_t h (lf_lr g)).2.1, (lf_t h (lf_lr g)).2.2, g.2.2.2⟩

theorem m_emits {d : Nat} {K : Nat → Nat × Nat} {I : Nat → Nat → Int32} {L : Nat → Nat → Int64} {R : Nat → Nat → Option Nat} {n s : Nat} {Q : Lo → Lm → Prop} {z : Nat} {x y : Int32} (hT : TK K R n) (hz : I 318 16 = nI z) (hz4 : z < 400) (kk : ∀ J, EmJ I J z x y → Q (.inl none) (K, J, L, R, n, s)) : Ok (d + 1) 248 [.ref 318, .int x, .int y] (K, I, L, R, n, s) Q := by
  obtain ⟨-, -, hn⟩ := id hT
  refine Ok.enter (F := F_248) (ls := [.ref 318, .int x, .int y]) rfl rfl ?_
  refine wp_aload0 (pc' := 1) rfl rfl ?_
  refine wp_getRF (pc' := 4) rfl rfl (by first | exact TK.k1 hT rfl | exact TK.kk hT rfl | exact TK.r hT rfl | assumption) (by first | exact TK.k1 hT rfl | exact TK.kk hT rfl | exact TK.r hT rfl | assumption) rfl ?_
  refine wp_sipush (v := nI 1381) (pc' := 7) rfl rfl rfl ?_
  refine wp_iconst (v := nI 2) (pc' := 8) rfl rfl rfl ?_
  refine wp_aload0 (pc' := 9) rfl rfl ?_
  refine wp_getI (pc' := 12) rfl rfl (by first | exact TK.k1 hT rfl | exact TK.kk hT rfl | exact TK.r hT rfl | assumption) rfl ?_
  rw [hz]
  first | refine wp_imulN (pc' := 13) rfl (by with_reducible rfl) (by with_reducible rfl) rfl ?_ | refine wp_imul (pc' := 13) rfl rfl ?_
  first | refine wp_iaddN (pc' := 14) rfl (by with_reducible rfl) (by with_reducible rfl) rfl ?_ | refine wp_iadd (pc' := 14) rfl rfl ?_
  refine wp_iload1 (pc' := 15) rfl rfl ?_
  refine wp_iast _ (pc' := 16) rfl (by first | exact TK.k1 hT rfl | exact TK.kk hT rfl | exact TK.r hT rfl | assumption) (by omega) (by with_reducible rfl) (by omega) (by first | decide | assumption | omega) rfl ?_
  refine wp_aload0 (pc' := 17) rfl rfl ?_
  refine wp_getRF (pc' := 20) rfl rfl (by first | exact TK.k1 hT rfl | exact TK.kk hT rfl | exact TK.r hT rfl | assumption) (by first | exact TK.k1 hT rfl | exact TK.kk hT rfl | exact TK.r hT rfl | assumption) rfl ?_
  refine wp_sipush (v := nI 1381) (pc' := 23) rfl rfl rfl ?_
  refine wp_iconst (v := nI 2) (pc' := 24) rfl rfl rfl ?_
  refine wp_aload0 (pc' := 25) rfl rfl ?_
  refine wp_getI (pc' := 28) rfl rfl (by first | exact TK.k1 hT rfl | exact TK.kk hT rfl | exact TK.r hT rfl | assumption) rfl ?_
  rw [up2_row (show (318 : Nat) ≠ 319 by decide), hz]
  first | refine wp_imulN (pc' := 29) rfl (by with_reducible rfl) (by with_reducible rfl) rfl ?_ | refine wp_imul (pc' := 29) rfl rfl ?_
  first | refine wp_iaddN (pc' := 30) rfl (by with_reducible rfl) (by with_reducible rfl) rfl ?_ | refine wp_iadd (pc' := 30) rfl rfl ?_
  refine wp_iconst (v := nI 1) (pc' := 31) rfl rfl rfl ?_
  first | refine wp_iaddN (pc' := 32) rfl (by with_reducible rfl) (by with_reducible rfl) rfl ?_ | refine wp_iadd (pc' := 32) rfl rfl ?_
  refine wp_iload2 (pc' := 33) rfl rfl ?_
  refine wp_iast _ (pc' := 34) rfl (by first | exact TK.k1 hT rfl | exact TK.kk hT rfl | exact TK.r hT rfl | assumption) (by omega) (by with_reducible rfl) (by omega) (by first | decide | assumption | omega) rfl ?_
  refine wp_aload0 (pc' := 35) rfl rfl ?_
  refine wp_dup (pc' := 36) rfl rfl rfl ?_
  refine wp_getI (pc' := 39) rfl rfl (by first | exact TK.k1 hT rfl | exact TK.kk hT rfl | exact TK.r hT rfl | assumption) rfl ?_
  rw [up2_row (show (318 : Nat) ≠ 319 by decide), up2_row (show (318 : Nat) ≠ 319 by decide), hz]
  refine wp_iconst (v := nI 1) (pc' := 40) rfl rfl rfl ?_
  first | refine wp_iaddN (pc' := 41) rfl (by with_reducible rfl) (by with_reducible rfl) rfl ?_ | refine wp_iadd (pc' := 41) rfl rfl ?_
  refine wp_putI (pc' := 44) rfl rfl (by first | exact TK.k1 hT rfl | exact TK.kk hT rfl | exact TK.r hT rfl | assumption) (by omega) rfl ?_
  refine wp_vret rfl rfl ?_
  refine kk _ ⟨fun a a1 a2 => ?_, fun j j1 j2 => ?_, ?_, ?_, fun j j1 => ?_, up2_hit⟩
  · rw [up2_row a1, up2_row a2, up2_row a2]
  · rw [up2_row (by decide), up2_same, if_neg j2, up2_same, if_neg j1]
  · rw [up2_row (by decide), up2_same, if_neg (by omega), up2_hit]
  · rw [up2_row (by decide), up2_hit]
  · rw [up2_same, if_neg j1, up2_row (by decide), up2_row (by decide)]
def wdV (q : Option Nat) : Int32 := match q with
  | none => -1
  | some k => nI k

theorem m_wordOfPart {d : Nat} {K : Nat → Nat × Nat} {I : Nat → Nat → Int32} {L : Nat → Nat → Int64} {R : Nat → Nat → Option Nat} {n s : Nat} {Q : Lo → Lm → Prop} {T q : Nat} {tv : Nat → Nat} (hT : TK K R n) (hR : RfI I T tv) (hS : SS K I R) (hqT : q ≤ T) (h10 : I 318 10 = nI (q + letN tv T q)) (h12 : I 318 12 = nI q) (kk : Q (.inl (some (.int (wdV (wd tv T q parW))))) (K, I, L, R, n, s)) : Ok (d + 4) 252 [.ref 318] (K, I, L, R, n, s) Q := by
  obtain ⟨-, -, hn⟩ := id hT
  have hlT := letN_le (tv := tv) (T := T) (p := q)
  refine Ok.enter (F := F_252) (ls := [.ref 318]) rfl rfl ?_
  refine wp_aload0 (pc' := 1) rfl rfl ?_
  refine wp_pool (v := .ref (lmB + 102)) (pc' := 3) rfl rfl rfl rfl rfl ?_
  refine wp_callV2 (pc' := 6) rfl rfl rfl rfl rfl (by first | exact TK.k1 hT rfl | exact TK.kk hT rfl | exact TK.r hT rfl | assumption) rfl rfl ?_
  refine m_isWordJ (w := 51) (p := q + letN tv T q) (b := q) [99, 101, 108, 108] hT hR h10 h12 hS (by decide) (by decide) (by omega) (by omega) ?_
  rw [wb_wd]
  refine Cont.v ?_
  first | refine wp_ifeqB (pc' := 9) rfl rfl ?_ ?_ | refine wp_ifeq (pc' := 9) rfl rfl ?_ ?_
  · intro h6
    refine wp_aload0 (pc' := 12) rfl rfl ?_
    refine wp_pool (v := .ref (lmB + 104)) (pc' := 14) rfl rfl rfl rfl rfl ?_
    refine wp_callV2 (pc' := 17) rfl rfl rfl rfl rfl (by first | exact TK.k1 hT rfl | exact TK.kk hT rfl | exact TK.r hT rfl | assumption) rfl rfl ?_
    refine m_isWordJ (w := 52) (p := q + letN tv T q) (b := q) [120] hT hR h10 h12 hS (by decide) (by decide) (by omega) (by omega) ?_
    rw [wb_wd]
    refine Cont.v ?_
    first | refine wp_ifeqB (pc' := 20) rfl rfl ?_ ?_ | refine wp_ifeq (pc' := 20) rfl rfl ?_ ?_
    · intro h17
      refine wp_aload0 (pc' := 23) rfl rfl ?_
      refine wp_pool (v := .ref (lmB + 106)) (pc' := 25) rfl rfl rfl rfl rfl ?_
      refine wp_callV2 (pc' := 28) rfl rfl rfl rfl rfl (by first | exact TK.k1 hT rfl | exact TK.kk hT rfl | exact TK.r hT rfl | assumption) rfl rfl ?_
      refine m_isWordJ (w := 53) (p := q + letN tv T q) (b := q) [121] hT hR h10 h12 hS (by decide) (by decide) (by omega) (by omega) ?_
      rw [wb_wd]
      refine Cont.v ?_
      first | refine wp_ifeqB (pc' := 31) rfl rfl ?_ ?_ | refine wp_ifeq (pc' := 31) rfl rfl ?_ ?_
      · intro h28
        refine wp_aload0 (pc' := 34) rfl rfl ?_
        refine wp_pool (v := .ref (lmB + 108)) (pc' := 36) rfl rfl rfl rfl rfl ?_
        refine wp_callV2 (pc' := 39) rfl rfl rfl rfl rfl (by first | exact TK.k1 hT rfl | exact TK.kk hT rfl | exact TK.r hT rfl | assumption) rfl rfl ?_
        refine m_isWordJ (w := 54) (p := q + letN tv T q) (b := q) [100, 101, 112, 116, 104] hT hR h10 h12 hS (by decide) (by decide) (by omega) (by omega) ?_
        rw [wb_wd]
        refine Cont.v ?_
        first | refine wp_ifeqB (pc' := 42) rfl rfl ?_ ?_ | refine wp_ifeq (pc' := 42) rfl rfl ?_ ?_
        · intro h39
          refine wp_aload0 (pc' := 45) rfl rfl ?_
          refine wp_pool (v := .ref (lmB + 64)) (pc' := 47) rfl rfl rfl rfl rfl ?_
          refine wp_callV2 (pc' := 50) rfl rfl rfl rfl rfl (by first | exact TK.k1 hT rfl | exact TK.kk hT rfl | exact TK.r hT rfl | assumption) rfl rfl ?_
          refine m_isWordJ (w := 32) (p := q + letN tv T q) (b := q) [119, 97, 116, 101, 114] hT hR h10 h12 hS (by decide) (by decide) (by omega) (by omega) ?_
          rw [wb_wd]
          refine Cont.v ?_
          first | refine wp_ifeqB (pc' := 53) rfl rfl ?_ ?_ | refine wp_ifeq (pc' := 53) rfl rfl ?_ ?_
          · intro h50
            refine wp_aload0 (pc' := 56) rfl rfl ?_
            refine wp_pool (v := .ref (lmB + 68)) (pc' := 58) rfl rfl rfl rfl rfl ?_
            refine wp_callV2 (pc' := 61) rfl rfl rfl rfl rfl (by first | exact TK.k1 hT rfl | exact TK.kk hT rfl | exact TK.r hT rfl | assumption) rfl rfl ?_
            refine m_isWordJ (w := 34) (p := q + letN tv T q) (b := q) [116, 117, 114, 118, 101, 115] hT hR h10 h12 hS (by decide) (by decide) (by omega) (by omega) ?_
            rw [wb_wd]
            refine Cont.v ?_
            first | refine wp_ifeqB (pc' := 64) rfl rfl ?_ ?_ | refine wp_ifeq (pc' := 64) rfl rfl ?_ ?_
            · intro h61
              refine wp_aload0 (pc' := 67) rfl rfl ?_
              refine wp_pool (v := .ref (lmB + 82)) (pc' := 69) rfl rfl rfl rfl rfl ?_
              refine wp_callV2 (pc' := 72) rfl rfl rfl rfl rfl (by first | exact TK.k1 hT rfl | exact TK.kk hT rfl | exact TK.r hT rfl | assumption) rfl rfl ?_
              refine m_isWordJ (w := 41) (p := q + letN tv T q) (b := q) [115, 117, 110] hT hR h10 h12 hS (by decide) (by decide) (by omega) (by omega) ?_
              rw [wb_wd]
              refine Cont.v ?_
              first | refine wp_ifeqB (pc' := 75) rfl rfl ?_ ?_ | refine wp_ifeq (pc' := 75) rfl rfl ?_ ?_
              · intro h72
                refine wp_iconst (v := (-1)) (pc' := 81) rfl rfl rfl ?_
                refine wp_iret rfl rfl rfl ?_
                first | exact Qv kk (by rw [show wd tv T q parW = some 6 from by unfold wd parW; rw [pick_f h6, pick_f h17, pick_f h28, pick_f h39, pick_f h50, pick_f h61, pick_t h72]]; rfl) rfl | exact Qv kk (by rw [show wd tv T q parW = none from by unfold wd parW; rw [pick_f h6, pick_f h17, pick_f h28, pick_f h39, pick_f h50, pick_f h61, pick_f h72]; rfl]; rfl) rfl
              · intro h72
                refine wp_bipush (v := nI 6) (pc' := 77) rfl rfl rfl ?_
                refine wp_goto rfl ?_
                refine wp_iret rfl rfl rfl ?_
                first | exact Qv kk (by rw [show wd tv T q parW = some 6 from by unfold wd parW; rw [pick_f h6, pick_f h17, pick_f h28, pick_f h39, pick_f h50, pick_f h61, pick_t h72]]; rfl) rfl | exact Qv kk (by rw [show wd tv T q parW = none from by unfold wd parW; rw [pick_f h6, pick_f h17, pick_f h28, pick_f h39, pick_f h50, pick_f h61, pick_f h72]; rfl]; rfl) rfl
            · intro h61
              refine wp_iconst (v := nI 5) (pc' := 65) rfl rfl rfl ?_
              refine wp_iret rfl rfl rfl ?_
              exact Qv kk (by rw [show wd tv T q parW = some 5 from by unfold wd parW; rw [pick_f h6, pick_f h17, pick_f h28, pick_f h39, pick_f h50, pick_t h61]]; rfl) rfl
          · intro h50
            refine wp_iconst (v := nI 4) (pc' := 54) rfl rfl rfl ?_
            refine wp_iret rfl rfl rfl ?_
            exact Qv kk (by rw [show wd tv T q parW = some 4 from by unfold wd parW; rw [pick_f h6, pick_f h17, pick_f h28, pick_f h39, pick_t h50]]; rfl) rfl
        · intro h39
          refine wp_iconst (v := nI 3) (pc' := 43) rfl rfl rfl ?_
          refine wp_iret rfl rfl rfl ?_
          exact Qv kk (by rw [show wd tv T q parW = some 3 from by unfold wd parW; rw [pick_f h6, pick_f h17, pick_f h28, pick_t h39]]; rfl) rfl
      · intro h28
        refine wp_iconst (v := nI 2) (pc' := 32) rfl rfl rfl ?_
        refine wp_iret rfl rfl rfl ?_
        exact Qv kk (by rw [show wd tv T q parW = some 2 from by unfold wd parW; rw [pick_f h6, pick_f h17, pick_t h28]]; rfl) rfl
    · intro h17
      refine wp_iconst (v := nI 1) (pc' := 21) rfl rfl rfl ?_
      refine wp_iret rfl rfl rfl ?_
      exact Qv kk (by rw [show wd tv T q parW = some 1 from by unfold wd parW; rw [pick_f h6, pick_t h17]]; rfl) rfl
  · intro h6
    refine wp_iconst (v := nI 0) (pc' := 10) rfl rfl rfl ?_
    refine wp_iret rfl rfl rfl ?_
    exact Qv kk (by rw [show wd tv T q parW = some 0 from by unfold wd parW; rw [pick_t h6]]; rfl) rfl
def parR (tv : Nat → Nat) (T : Nat) (st : Sz) (p : Nat) : Re := match parF tv T st p with
  | none => (false, st, p)
  | some x => (true, x.1, x.2)
theorem parR_n {tv : Nat → Nat} {T p : Nat} {st : Sz} (h : parF tv T st p = none) : parR tv T st p = (false, st, p) := by unfold parR; rw [h]
theorem parR_s {tv : Nat → Nat} {T p z : Nat} {st s2 : Sz} (h : parF tv T st p = some (s2, z)) : parR tv T st p = (true, s2, z) := by unfold parR; rw [h]
theorem let_0 {tv : Nat → Nat} {T p : Nat} (h : letN tv T p ≠ 0) : p < T ∧ 97 ≤ tv p ∧ tv p ≤ 122 := by
  by_cases e : p < T
  · by_cases e2 : 97 ≤ tv p ∧ tv p ≤ 122
    · exact ⟨e, e2⟩
    · exact absurd (letN_n e e2) h
  · exact absurd (letN_T (by omega)) h
theorem wd_0 {tv : Nat → Nat} {T p : Nat} {Ws : List (List Nat)} (hW : okWs Ws = true) (h : letN tv T p = 0) : wd tv T p Ws = none := by
  have : ∀ (Ws : List (List Nat)) k, (∀ w ∈ Ws, w ≠ []) → pickW tv p 0 Ws k = none := by
    intro Ws
    induction Ws with
    | nil => intro k _; rfl
    | cons w r ih =>
      intro k hw
      rw [pickW, if_neg (fun q => hw w (by simp) (List.length_eq_zero_iff.mp q.1.symm))]
      exact ih (k + 1) (fun v hv => hw v (by simp [hv]))
  unfold wd
  rw [h]
  exact this Ws 0 (fun w hw => ((okWs_spec hW).1 w hw).1)
theorem num_nd {tv : Nat → Nat} {T p : Nat} {lo hi : Int32} (h : ¬ atDg tv T p) : numR tv T p lo hi = none := by
  apply num_n
  left
  have hX : dgN tv T p = (p, 0) := by
    unfold dgN
    apply dg_end
    by_cases e : p < T
    · right; exact fun z => h ⟨e, z⟩
    · left; omega
  rw [hX]
  show p - p < 1
  omega
theorem wdV_lt {q : Option Nat} (hq : ∀ k, q = some k → k < 100) (h : wdV q < nI 0) : q = none := by
  cases q with
  | none => rfl
  | some k => exact absurd h (nI_pos (show k < 2 ^ 31 by have := hq k rfl; omega))
theorem wdV_ge {q : Option Nat} (h : ¬ wdV q < nI 0) : ∃ k, q = some k := by
  cases q with
  | none => exact absurd (show wdV none < nI 0 by decide) h
  | some k => exact ⟨k, rfl⟩
theorem wd_lt {tv : Nat → Nat} {T p k : Nat} {Ws : List (List Nat)} (h : wd tv T p Ws = some k) : k < Ws.length := by have := (pickW_lt Ws 0 k h).2; omega

section
variable {Q : Lo → Lm → Prop} {K : Nat → Nat × Nat} {I J1 J2 J3 : Mem} {L : Nat → Nat → Int64} {R : Nat → Nat → Option Nat} {n s : Nat} {tv : Nat → Nat} {T q e dp : Nat} {st : Sz}
theorem pp_1 (hqT : q ≤ T) (hlw : LwS J2 st dp) (hz : st.2 < 400) (hE : NuE tv T q (numR tv T q (nI 0) (nI 999)) e) (hJ : TkJ I J2 e q) (hJ3 : EmJ J2 J3 st.2 (nI 10) (numV (numR tv T q (nI 0) (nI 999)))) (hl : letN tv T q = 0) (h : numV (numR tv T q (nI 0) (nI 999)) < nI 0) (kk : ∀ J, LrJ T tv I dp (parR tv T st q) J → Q (.inl (some (.int (if (parR tv T st q).1 = true then nI 1 else nI 0)))) (K, J, L, R, n, s)) : Q (.inl (some (.int (nI 0)))) (K, J3, L, R, n, s) := by
  have hN := num_neg hqT h
  have hP : parF tv T st q = none := by
    unfold parF
    by_cases c : atDg tv T q
    · rw [if_pos c, hN]
    · rw [if_neg c, wd_0 (by decide) hl]
  rw [parR_n hP] at kk
  exact kk J3 (lr_f (lf_t (lf_tk hJ) (lf_em hJ3)) (by rw [hJ3.2.2.2.2.1 12 (by decide)]; exact hJ.2.2.2))
theorem pp_2 (hqT : q ≤ T) (hlw : LwS J2 st dp) (hz : st.2 < 400) (hE : NuE tv T q (numR tv T q (nI 0) (nI 999)) e) (hJ : TkJ I J2 e q) (hJ3 : EmJ J2 J3 st.2 (nI 10) (numV (numR tv T q (nI 0) (nI 999)))) (hl : letN tv T q = 0) (h : ¬ numV (numR tv T q (nI 0) (nI 999)) < nI 0) (kk : ∀ J, LrJ T tv I dp (parR tv T st q) J → Q (.inl (some (.int (if (parR tv T st q).1 = true then nI 1 else nI 0)))) (K, J, L, R, n, s)) : Q (.inl (some (.int (nI 1)))) (K, J3, L, R, n, s) := by
  obtain ⟨v, z, hN, hv, -, hv9, -, hzT⟩ := num_pos hqT h
  have hv1 : v ≤ 999 := ge_nI hv9 (by omega)
  have hd : atDg tv T q := Classical.byContradiction (fun c => by rw [num_nd c] at hN; cases hN)
  rw [parR_s (parF_d hd hN)] at kk
  rw [hN] at hJ3
  have hk := tk_num (show v < 1000 by omega)
  have hJ3' : EmJ J2 J3 st.2 (tk1 (nI v)) (tk2 (nI v)) := by rw [hk.1, hk.2]; exact hJ3
  refine kk J3 (lr_t (lf_t (lf_tk hJ) (lf_em hJ3)) (lw_em hlw hz hJ3').1 hE.2.1 (by rw [hJ3.2.2.2.2.1 10 (by decide)]; exact hJ.2.2.1) (hE.2.2 v z hN).symm)
theorem pp_3 (hqT : q ≤ T) (hlw : LwS J1 st dp) (hz : st.2 < 400) (hpT : q + letN tv T q ≤ T) (hJ : TkJ I J1 (q + letN tv T q) q) (hJ3 : EmJ J1 J3 st.2 (wdV (wd tv T q parW)) (nI 0)) (hl : ¬ letN tv T q = 0) (h : wdV (wd tv T q parW) < nI 0) (kk : ∀ J, LrJ T tv I dp (parR tv T st q) J → Q (.inl (some (.int (if (parR tv T st q).1 = true then nI 1 else nI 0)))) (K, J, L, R, n, s)) : Q (.inl (some (.int (nI 0)))) (K, J3, L, R, n, s) := by
  have hN := wdV_lt (fun k hk => by have := wd_lt hk; have : parW.length = 7 := rfl; omega) h
  have hle := let_0 hl
  have hP : parF tv T st q = none := by
    unfold parF
    rw [if_neg (fun c => by have := c.2.2; omega), hN]
  rw [parR_n hP] at kk
  exact kk J3 (lr_f (lf_t (lf_tk hJ) (lf_em hJ3)) (by rw [hJ3.2.2.2.2.1 12 (by decide)]; exact hJ.2.2.2))
theorem pp_4 (hqT : q ≤ T) (hlw : LwS J1 st dp) (hz : st.2 < 400) (hpT : q + letN tv T q ≤ T) (hJ : TkJ I J1 (q + letN tv T q) q) (hJ3 : EmJ J1 J3 st.2 (wdV (wd tv T q parW)) (nI 0)) (hl : ¬ letN tv T q = 0) (h : ¬ wdV (wd tv T q parW) < nI 0) (kk : ∀ J, LrJ T tv I dp (parR tv T st q) J → Q (.inl (some (.int (if (parR tv T st q).1 = true then nI 1 else nI 0)))) (K, J, L, R, n, s)) : Q (.inl (some (.int (nI 1)))) (K, J3, L, R, n, s) := by
  obtain ⟨k, hN⟩ := wdV_ge h
  have hle := let_0 hl
  have hk7 : k < 7 := wd_lt hN
  rw [parR_s (parF_w (fun c => by have := c.2.2; omega) hN)] at kk
  rw [hN] at hJ3
  have hk := tk_w ⟨k, by omega⟩
  dsimp only at hk
  have hJ3' : EmJ J1 J3 st.2 (tk1 (nI (1000 + k))) (tk2 (nI (1000 + k))) := by rw [hk.1, hk.2]; exact hJ3
  refine kk J3 (lr_t (lf_t (lf_tk hJ) (lf_em hJ3)) (lw_em hlw hz hJ3').1 hpT (by rw [hJ3.2.2.2.2.1 10 (by decide)]; exact hJ.2.2.1) rfl)
end

theorem m_readPart {d : Nat} {K : Nat → Nat × Nat} {I : Nat → Nat → Int32} {L : Nat → Nat → Int64} {R : Nat → Nat → Option Nat} {n s : Nat} {Q : Lo → Lm → Prop} {T p dp : Nat} {tv : Nat → Nat} {st : Sz} (hT : TK K R n) (hR : RfI I T tv) (hp : p ≤ T) (h10 : I 318 10 = nI p) (hS : SS K I R) (hlw : LwS I st dp) (hg : st.2 + 1 ≤ skp tv T p) (kk : ∀ J, LrJ T tv I dp (parR tv T st (skp tv T p)) J → Q (.inl (some (.int (if (parR tv T st (skp tv T p)).1 = true then nI 1 else nI 0)))) (K, J, L, R, n, s)) : Ok (d + 5) 251 [.ref 318] (K, I, L, R, n, s) Q := by
  obtain ⟨-, -, hn⟩ := id hT
  have hT4 := hR.2.1
  refine Ok.enter (F := F_251) (ls := [.ref 318, lDead, lDead]) rfl rfl ?_
  refine wp_aload0 (pc' := 1) rfl rfl ?_
  refine wp_callV1 (pc' := 4) rfl rfl rfl rfl rfl (by first | exact TK.k1 hT rfl | exact TK.kk hT rfl | exact TK.r hT rfl | assumption) rfl rfl ?_
  refine m_lettersTJ hT hR hp h10 (fun J1 hJ1 => ?_)
  obtain ⟨q, hq⟩ : ∃ q, skp tv T p = q := ⟨_, rfl⟩
  have hqT := (skp_ge (tv := tv) hp).2
  have hqq := skp_sk (tv := tv) hp
  have hlT := letN_le (tv := tv) (T := T) (p := q)
  rw [hq] at hJ1 hqT hqq hg kk
  have hR1 := tk_rd hJ1 hR
  have hlw1 := lw_tk hJ1 hlw
  refine Cont.u ?_
  refine wp_aload0 (pc' := 5) rfl rfl ?_
  refine wp_getI (pc' := 8) rfl rfl (by first | exact TK.k1 hT rfl | exact TK.kk hT rfl | exact TK.r hT rfl | assumption) rfl ?_
  rw [hJ1.2.2.1]
  refine wp_aload0 (pc' := 9) rfl rfl ?_
  refine wp_getI (pc' := 12) rfl rfl (by first | exact TK.k1 hT rfl | exact TK.kk hT rfl | exact TK.r hT rfl | assumption) rfl ?_
  rw [hJ1.2.2.2]
  refine wp_icmpne (pc' := 15) rfl rfl ?_ ?_
  · intro h12
    refine wp_iconst (v := nI 0) (pc' := 20) rfl rfl rfl ?_
    refine wp_istore1 (pc' := 21) rfl (by first | rfl | assumption) rfl ?_
    refine wp_iload1 (pc' := 22) rfl rfl ?_
    refine wp_ifeqT rfl rfl ?_
    refine wp_aload0 (pc' := 37) rfl rfl ?_
    refine wp_callV1 (pc' := 40) rfl rfl rfl rfl rfl (by first | exact TK.k1 hT rfl | exact TK.kk hT rfl | exact TK.r hT rfl | assumption) rfl rfl ?_
    refine m_wordOfPart (q := q) hT hR1 (tk_ss hJ1 hS) hqT hJ1.2.2.1 hJ1.2.2.2 ?_
    refine Cont.v ?_
    refine wp_istore2 (pc' := 41) rfl (by first | rfl | assumption) rfl ?_
    refine wp_aload0 (pc' := 42) rfl rfl ?_
    refine wp_iload1 (pc' := 43) rfl rfl ?_
    refine wp_ifeqT rfl rfl ?_
    refine wp_iload2 (pc' := 52) rfl rfl ?_
    refine wp_iload1 (pc' := 53) rfl rfl ?_
    refine wp_ifeqT rfl rfl ?_
    refine wp_iconst (v := nI 0) (pc' := 61) rfl rfl rfl ?_
    refine wp_callV3 (pc' := 64) rfl rfl rfl rfl rfl (by first | exact TK.k1 hT rfl | exact TK.kk hT rfl | exact TK.r hT rfl | assumption) rfl rfl ?_
    first | refine m_emits (z := st.2) hT hlw2.2.1 (by have := hR.2.1; omega) (fun J3 hJ3 => ?_) | refine m_emits (z := st.2) hT hlw1.2.1 (by have := hR.2.1; omega) (fun J3 hJ3 => ?_)
    refine Cont.u ?_
    refine wp_iload2 (pc' := 65) rfl rfl ?_
    refine wp_iflt (pc' := 68) rfl rfl ?_ ?_
    · intro h65
      refine wp_iconst (v := nI 0) (pc' := 73) rfl rfl rfl ?_
      refine wp_iret rfl rfl (by first | rfl | exact nar_if) ?_
      first | exact pp_1 hqT hlw2 (show st.2 < 400 by have := hR.2.1; omega) hE (tk_tr hJ1 hJ2) hJ3 hl0 h65 kk | exact pp_2 hqT hlw2 (show st.2 < 400 by have := hR.2.1; omega) hE (tk_tr hJ1 hJ2) hJ3 hl0 h65 kk | exact pp_3 hqT hlw1 (show st.2 < 400 by have := hR.2.1; omega) (by omega) hJ1 hJ3 (fun z => h12 (by rw [z, Nat.add_zero])) h65 kk | exact pp_4 hqT hlw1 (show st.2 < 400 by have := hR.2.1; omega) (by omega) hJ1 hJ3 (fun z => h12 (by rw [z, Nat.add_zero])) h65 kk
    · intro h65
      refine wp_iconst (v := nI 1) (pc' := 69) rfl rfl rfl ?_
      refine wp_goto rfl ?_
      refine wp_iret rfl rfl (by first | rfl | exact nar_if) ?_
      first | exact pp_1 hqT hlw2 (show st.2 < 400 by have := hR.2.1; omega) hE (tk_tr hJ1 hJ2) hJ3 hl0 h65 kk | exact pp_2 hqT hlw2 (show st.2 < 400 by have := hR.2.1; omega) hE (tk_tr hJ1 hJ2) hJ3 hl0 h65 kk | exact pp_3 hqT hlw1 (show st.2 < 400 by have := hR.2.1; omega) (by omega) hJ1 hJ3 (fun z => h12 (by rw [z, Nat.add_zero])) h65 kk | exact pp_4 hqT hlw1 (show st.2 < 400 by have := hR.2.1; omega) (by omega) hJ1 hJ3 (fun z => h12 (by rw [z, Nat.add_zero])) h65 kk
  · intro h12
    have h12a := h12
    refine wp_iconst (v := nI 1) (pc' := 16) rfl rfl rfl ?_
    refine wp_goto rfl ?_
    refine wp_istore1 (pc' := 21) rfl (by first | rfl | assumption) rfl ?_
    refine wp_iload1 (pc' := 22) rfl rfl ?_
    refine wp_ifeqF (pc' := 25) rfl (by decide) rfl ?_
    refine wp_aload0 (pc' := 26) rfl rfl ?_
    refine wp_iconst (v := nI 0) (pc' := 27) rfl rfl rfl ?_
    refine wp_sipush (v := nI 999) (pc' := 30) rfl rfl rfl ?_
    refine wp_callV3 (pc' := 33) rfl rfl rfl rfl rfl (by first | exact TK.k1 hT rfl | exact TK.kk hT rfl | exact TK.r hT rfl | assumption) rfl rfl ?_
    have hl0 : letN tv T q = 0 := by have := eq_nI h12a (by omega) (by omega); omega
    rw [hl0, Nat.add_zero] at hJ1
    refine m_numberJ hT hR1 hqT hJ1.2.2.1 (fun J2 e hE hJ2 => ?_)
    rw [hqq] at hE hJ2 ⊢
    have hlw2 := lw_tk hJ2 hlw1
    refine Cont.v ?_
    refine wp_goto rfl ?_
    refine wp_istore2 (pc' := 41) rfl (by first | rfl | assumption) rfl ?_
    refine wp_aload0 (pc' := 42) rfl rfl ?_
    refine wp_iload1 (pc' := 43) rfl rfl ?_
    refine wp_ifeqF (pc' := 46) rfl (by decide) rfl ?_
    refine wp_bipush (v := nI 10) (pc' := 48) rfl rfl rfl ?_
    refine wp_goto rfl ?_
    refine wp_iload1 (pc' := 53) rfl rfl ?_
    refine wp_ifeqF (pc' := 56) rfl (by decide) rfl ?_
    refine wp_iload2 (pc' := 57) rfl rfl ?_
    refine wp_goto rfl ?_
    refine wp_callV3 (pc' := 64) rfl rfl rfl rfl rfl (by first | exact TK.k1 hT rfl | exact TK.kk hT rfl | exact TK.r hT rfl | assumption) rfl rfl ?_
    first | refine m_emits (z := st.2) hT hlw2.2.1 (by have := hR.2.1; omega) (fun J3 hJ3 => ?_) | refine m_emits (z := st.2) hT hlw1.2.1 (by have := hR.2.1; omega) (fun J3 hJ3 => ?_)
    refine Cont.u ?_
    refine wp_iload2 (pc' := 65) rfl rfl ?_
    refine wp_iflt (pc' := 68) rfl rfl ?_ ?_
    · intro h65
      refine wp_iconst (v := nI 0) (pc' := 73) rfl rfl rfl ?_
      refine wp_iret rfl rfl (by first | rfl | exact nar_if) ?_
      first | exact pp_1 hqT hlw2 (show st.2 < 400 by have := hR.2.1; omega) hE (tk_tr hJ1 hJ2) hJ3 hl0 h65 kk | exact pp_2 hqT hlw2 (show st.2 < 400 by have := hR.2.1; omega) hE (tk_tr hJ1 hJ2) hJ3 hl0 h65 kk | exact pp_3 hqT hlw1 (show st.2 < 400 by have := hR.2.1; omega) (by omega) hJ1 hJ3 (fun z => h12 (by rw [z, Nat.add_zero])) h65 kk | exact pp_4 hqT hlw1 (show st.2 < 400 by have := hR.2.1; omega) (by omega) hJ1 hJ3 (fun z => h12 (by rw [z, Nat.add_zero])) h65 kk
    · intro h65
      refine wp_iconst (v := nI 1) (pc' := 69) rfl rfl rfl ?_
      refine wp_goto rfl ?_
      refine wp_iret rfl rfl (by first | rfl | exact nar_if) ?_
      first | exact pp_1 hqT hlw2 (show st.2 < 400 by have := hR.2.1; omega) hE (tk_tr hJ1 hJ2) hJ3 hl0 h65 kk | exact pp_2 hqT hlw2 (show st.2 < 400 by have := hR.2.1; omega) hE (tk_tr hJ1 hJ2) hJ3 hl0 h65 kk | exact pp_3 hqT hlw1 (show st.2 < 400 by have := hR.2.1; omega) (by omega) hJ1 hJ3 (fun z => h12 (by rw [z, Nat.add_zero])) h65 kk | exact pp_4 hqT hlw1 (show st.2 < 400 by have := hR.2.1; omega) (by omega) hJ1 hJ3 (fun z => h12 (by rw [z, Nat.add_zero])) h65 kk
