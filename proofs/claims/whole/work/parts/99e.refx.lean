/-! THE REFERENCE: the bog's text -/
theorem pick_t {tv : Nat → Nat} {T p k : Nat} {w : List Nat} {r : List (List Nat)} (h : wdB tv T p w = true) : pickW tv p (letN tv T p) (w :: r) k = some k := by
  have h2 : letN tv T p = w.length ∧ eqW tv p w = true := by
    rw [Bool.and_eq_true] at h
    exact ⟨of_decide_eq_true h.1, h.2⟩
  rw [pickW, if_pos h2]
theorem pick_f {tv : Nat → Nat} {T p k : Nat} {w : List Nat} {r : List (List Nat)} (h : ¬ wdB tv T p w = true) : pickW tv p (letN tv T p) (w :: r) k = pickW tv p (letN tv T p) r (k + 1) := by
  rw [pickW, if_neg (fun q => h (by rw [Bool.and_eq_true]; exact ⟨decide_eq_true q.1, q.2⟩))]
def wlLin (tv : Nat → Nat) (T : Nat) (w : Nat → Int32) (p H : Nat) : Bool × (Nat → Int32) × Nat := match wd tv T p bogW with
  | none => (false, w, p)
  | some 0 => wlRow tv T 0 w (af tv T p)
  | some 1 => wlRow tv T 1 w (af tv T p)
  | some 2 => wlDrn tv T w (af tv T p)
  | some 3 => wlTur tv T w (af tv T p)
  | some 4 => wlHea tv T w p (af tv T p) H
  | some 5 => wlRgt tv T w (af tv T p) H
  | some 6 => wlNum tv T 3 9 w (af tv T p)
  | some 7 => wlNum tv T 4 100 w (af tv T p)
  | some 8 => (true, up1 w 5 (nI 1), af tv T p)
  | some _ => wlNum tv T 6 999 w (af tv T p)
theorem wlin_0 {tv : Nat → Nat} {T p H : Nat} {w : Nat → Int32} (h : wd tv T p bogW = some 0) : wlLin tv T w p H = wlRow tv T 0 w (af tv T p) := by unfold wlLin; rw [h] <;> rfl
theorem wlin_1 {tv : Nat → Nat} {T p H : Nat} {w : Nat → Int32} (h : wd tv T p bogW = some 1) : wlLin tv T w p H = wlRow tv T 1 w (af tv T p) := by unfold wlLin; rw [h] <;> rfl
theorem wlin_2 {tv : Nat → Nat} {T p H : Nat} {w : Nat → Int32} (h : wd tv T p bogW = some 2) : wlLin tv T w p H = wlDrn tv T w (af tv T p) := by unfold wlLin; rw [h] <;> rfl
theorem wlin_3 {tv : Nat → Nat} {T p H : Nat} {w : Nat → Int32} (h : wd tv T p bogW = some 3) : wlLin tv T w p H = wlTur tv T w (af tv T p) := by unfold wlLin; rw [h] <;> rfl
theorem wlin_4 {tv : Nat → Nat} {T p H : Nat} {w : Nat → Int32} (h : wd tv T p bogW = some 4) : wlLin tv T w p H = wlHea tv T w p (af tv T p) H := by unfold wlLin; rw [h] <;> rfl
theorem wlin_5 {tv : Nat → Nat} {T p H : Nat} {w : Nat → Int32} (h : wd tv T p bogW = some 5) : wlLin tv T w p H = wlRgt tv T w (af tv T p) H := by unfold wlLin; rw [h] <;> rfl
theorem wlin_6 {tv : Nat → Nat} {T p H : Nat} {w : Nat → Int32} (h : wd tv T p bogW = some 6) : wlLin tv T w p H = wlNum tv T 3 9 w (af tv T p) := by unfold wlLin; rw [h] <;> rfl
theorem wlin_7 {tv : Nat → Nat} {T p H : Nat} {w : Nat → Int32} (h : wd tv T p bogW = some 7) : wlLin tv T w p H = wlNum tv T 4 100 w (af tv T p) := by unfold wlLin; rw [h] <;> rfl
theorem wlin_8 {tv : Nat → Nat} {T p H : Nat} {w : Nat → Int32} (h : wd tv T p bogW = some 8) : wlLin tv T w p H = (true, up1 w 5 (nI 1), af tv T p) := by unfold wlLin; rw [h] <;> rfl
theorem wlin_9 {tv : Nat → Nat} {T p H : Nat} {w : Nat → Int32} (h : wd tv T p bogW = some 9) : wlLin tv T w p H = wlNum tv T 6 999 w (af tv T p) := by unfold wlLin; rw [h] <;> rfl
theorem wlin_N {tv : Nat → Nat} {T p H : Nat} {w : Nat → Int32} (h : wd tv T p bogW = none) : wlLin tv T w p H = (false, w, p) := by unfold wlLin; rw [h]

theorem m_bogLine {d : Nat} {K : Nat → Nat × Nat} {I : Nat → Nat → Int32} {L : Nat → Nat → Int64} {R : Nat → Nat → Option Nat} {n s : Nat} {Q : Lo → Lm → Prop} {T q H : Nat} {tv : Nat → Nat} (hT : TK K R n) (hR : RfI I T tv) (hS : SS K I R) (hqT : q ≤ T) (h10 : I 318 10 = nI (q + letN tv T q)) (h12 : I 318 12 = nI q) (hw : I 319 0 = nI H) (hH6 : H ≤ 6) (kk : ∀ r J, wlLin tv T (I 319) q H = r → RdJ T tv I r J → Q (.inl (some (.int (if r.1 = true then nI 1 else nI 0)))) (K, J, L, R, n, s)) : Ok (d + 7) 226 [.ref 318] (K, I, L, R, n, s) Q := by
  obtain ⟨-, -, hn⟩ := id hT
  have hlT := letN_le (tv := tv) (T := T) (p := q)
  have hpT : q + letN tv T q ≤ T := by omega
  refine Ok.enter (F := F_226) (ls := [.ref 318]) rfl rfl ?_
  refine wp_aload0 (pc' := 1) rfl rfl ?_
  refine wp_pool (v := .ref (lmB + 62)) (pc' := 3) rfl rfl rfl rfl rfl ?_
  refine wp_callV2 (pc' := 6) rfl rfl rfl rfl rfl (by first | exact TK.k1 hT rfl | exact TK.kk hT rfl | exact TK.r hT rfl | assumption) rfl rfl ?_
  refine m_isWordJ (w := 31) (p := q + letN tv T q) (b := q) [112, 101, 97, 116] hT hR h10 h12 hS (by decide) (by decide) (by omega) (by omega) ?_
  rw [wb_wd]
  refine Cont.v ?_
  first | refine wp_ifeqB (pc' := 9) rfl rfl ?_ ?_ | refine wp_ifeq (pc' := 9) rfl rfl ?_ ?_
  · intro h6
    refine wp_aload0 (pc' := 16) rfl rfl ?_
    refine wp_pool (v := .ref (lmB + 64)) (pc' := 18) rfl rfl rfl rfl rfl ?_
    refine wp_callV2 (pc' := 21) rfl rfl rfl rfl rfl (by first | exact TK.k1 hT rfl | exact TK.kk hT rfl | exact TK.r hT rfl | assumption) rfl rfl ?_
    refine m_isWordJ (w := 32) (p := q + letN tv T q) (b := q) [119, 97, 116, 101, 114] hT hR h10 h12 hS (by decide) (by decide) (by omega) (by omega) ?_
    rw [wb_wd]
    refine Cont.v ?_
    first | refine wp_ifeqB (pc' := 24) rfl rfl ?_ ?_ | refine wp_ifeq (pc' := 24) rfl rfl ?_ ?_
    · intro h21
      refine wp_aload0 (pc' := 31) rfl rfl ?_
      refine wp_pool (v := .ref (lmB + 66)) (pc' := 33) rfl rfl rfl rfl rfl ?_
      refine wp_callV2 (pc' := 36) rfl rfl rfl rfl rfl (by first | exact TK.k1 hT rfl | exact TK.kk hT rfl | exact TK.r hT rfl | assumption) rfl rfl ?_
      refine m_isWordJ (w := 33) (p := q + letN tv T q) (b := q) [100, 114, 97, 105, 110] hT hR h10 h12 hS (by decide) (by decide) (by omega) (by omega) ?_
      rw [wb_wd]
      refine Cont.v ?_
      first | refine wp_ifeqB (pc' := 39) rfl rfl ?_ ?_ | refine wp_ifeq (pc' := 39) rfl rfl ?_ ?_
      · intro h36
        refine wp_aload0 (pc' := 45) rfl rfl ?_
        refine wp_pool (v := .ref (lmB + 68)) (pc' := 47) rfl rfl rfl rfl rfl ?_
        refine wp_callV2 (pc' := 50) rfl rfl rfl rfl rfl (by first | exact TK.k1 hT rfl | exact TK.kk hT rfl | exact TK.r hT rfl | assumption) rfl rfl ?_
        refine m_isWordJ (w := 34) (p := q + letN tv T q) (b := q) [116, 117, 114, 118, 101, 115] hT hR h10 h12 hS (by decide) (by decide) (by omega) (by omega) ?_
        rw [wb_wd]
        refine Cont.v ?_
        first | refine wp_ifeqB (pc' := 53) rfl rfl ?_ ?_ | refine wp_ifeq (pc' := 53) rfl rfl ?_ ?_
        · intro h50
          refine wp_aload0 (pc' := 59) rfl rfl ?_
          refine wp_pool (v := .ref (lmB + 72)) (pc' := 61) rfl rfl rfl rfl rfl ?_
          refine wp_callV2 (pc' := 64) rfl rfl rfl rfl rfl (by first | exact TK.k1 hT rfl | exact TK.kk hT rfl | exact TK.r hT rfl | assumption) rfl rfl ?_
          refine m_isWordJ (w := 36) (p := q + letN tv T q) (b := q) [104, 101, 97, 114, 116, 104] hT hR h10 h12 hS (by decide) (by decide) (by omega) (by omega) ?_
          rw [wb_wd]
          refine Cont.v ?_
          first | refine wp_ifeqB (pc' := 67) rfl rfl ?_ ?_ | refine wp_ifeq (pc' := 67) rfl rfl ?_ ?_
          · intro h64
            refine wp_aload0 (pc' := 73) rfl rfl ?_
            refine wp_pool (v := .ref (lmB + 80)) (pc' := 75) rfl rfl rfl rfl rfl ?_
            refine wp_callV2 (pc' := 78) rfl rfl rfl rfl rfl (by first | exact TK.k1 hT rfl | exact TK.kk hT rfl | exact TK.r hT rfl | assumption) rfl rfl ?_
            refine m_isWordJ (w := 40) (p := q + letN tv T q) (b := q) [114, 105, 103, 104, 116] hT hR h10 h12 hS (by decide) (by decide) (by omega) (by omega) ?_
            rw [wb_wd]
            refine Cont.v ?_
            first | refine wp_ifeqB (pc' := 81) rfl rfl ?_ ?_ | refine wp_ifeq (pc' := 81) rfl rfl ?_ ?_
            · intro h78
              refine wp_aload0 (pc' := 87) rfl rfl ?_
              refine wp_pool (v := .ref (lmB + 82)) (pc' := 89) rfl rfl rfl rfl rfl ?_
              refine wp_callV2 (pc' := 92) rfl rfl rfl rfl rfl (by first | exact TK.k1 hT rfl | exact TK.kk hT rfl | exact TK.r hT rfl | assumption) rfl rfl ?_
              refine m_isWordJ (w := 41) (p := q + letN tv T q) (b := q) [115, 117, 110] hT hR h10 h12 hS (by decide) (by decide) (by omega) (by omega) ?_
              rw [wb_wd]
              refine Cont.v ?_
              first | refine wp_ifeqB (pc' := 95) rfl rfl ?_ ?_ | refine wp_ifeq (pc' := 95) rfl rfl ?_ ?_
              · intro h92
                refine wp_aload0 (pc' := 105) rfl rfl ?_
                refine wp_pool (v := .ref (lmB + 84)) (pc' := 107) rfl rfl rfl rfl rfl ?_
                refine wp_callV2 (pc' := 110) rfl rfl rfl rfl rfl (by first | exact TK.k1 hT rfl | exact TK.kk hT rfl | exact TK.r hT rfl | assumption) rfl rfl ?_
                refine m_isWordJ (w := 42) (p := q + letN tv T q) (b := q) [115, 104, 111, 119, 101, 114] hT hR h10 h12 hS (by decide) (by decide) (by omega) (by omega) ?_
                rw [wb_wd]
                refine Cont.v ?_
                first | refine wp_ifeqB (pc' := 113) rfl rfl ?_ ?_ | refine wp_ifeq (pc' := 113) rfl rfl ?_ ?_
                · intro h110
                  refine wp_aload0 (pc' := 123) rfl rfl ?_
                  refine wp_pool (v := .ref (lmB + 86)) (pc' := 125) rfl rfl rfl rfl rfl ?_
                  refine wp_callV2 (pc' := 128) rfl rfl rfl rfl rfl (by first | exact TK.k1 hT rfl | exact TK.kk hT rfl | exact TK.r hT rfl | assumption) rfl rfl ?_
                  refine m_isWordJ (w := 43) (p := q + letN tv T q) (b := q) [114, 97, 105, 110] hT hR h10 h12 hS (by decide) (by decide) (by omega) (by omega) ?_
                  rw [wb_wd]
                  refine Cont.v ?_
                  first | refine wp_ifeqB (pc' := 131) rfl rfl ?_ ?_ | refine wp_ifeq (pc' := 131) rfl rfl ?_ ?_
                  · intro h128
                    refine wp_aload0 (pc' := 137) rfl rfl ?_
                    refine wp_pool (v := .ref (lmB + 88)) (pc' := 139) rfl rfl rfl rfl rfl ?_
                    refine wp_callV2 (pc' := 142) rfl rfl rfl rfl rfl (by first | exact TK.k1 hT rfl | exact TK.kk hT rfl | exact TK.r hT rfl | assumption) rfl rfl ?_
                    refine m_isWordJ (w := 44) (p := q + letN tv T q) (b := q) [100, 97, 121] hT hR h10 h12 hS (by decide) (by decide) (by omega) (by omega) ?_
                    rw [wb_wd]
                    refine Cont.v ?_
                    first | refine wp_ifeqB (pc' := 145) rfl rfl ?_ ?_ | refine wp_ifeq (pc' := 145) rfl rfl ?_ ?_
                    · intro h142
                      refine wp_iconst (v := nI 0) (pc' := 163) rfl rfl rfl ?_
                      refine wp_iret rfl rfl (by first | rfl | exact nar_if) ?_
                      first | exact Qv (kk r J ((wlin_9 (by unfold wd bogW; rw [pick_f h6, pick_f h21, pick_f h36, pick_f h50, pick_f h64, pick_f h78, pick_f h92, pick_f h110, pick_f h128, pick_t h142])).trans hr) hJ) (by rw [if_pos h155]) rfl | exact Qv (kk r J ((wlin_9 (by unfold wd bogW; rw [pick_f h6, pick_f h21, pick_f h36, pick_f h50, pick_f h64, pick_f h78, pick_f h92, pick_f h110, pick_f h128, pick_t h142])).trans hr) hJ) (by rw [if_neg h155]) rfl | exact kk _ _ (wlin_N (by unfold wd bogW; rw [pick_f h6, pick_f h21, pick_f h36, pick_f h50, pick_f h64, pick_f h78, pick_f h92, pick_f h110, pick_f h128, pick_f h142]; rfl)) ⟨fun _ _ _ => rfl, fun _ _ _ => rfl, fun z => absurd (show false = true from z) (by decide), fun _ => h12⟩
                    · intro h142
                      refine wp_aload0 (pc' := 146) rfl rfl ?_
                      refine wp_bipush (v := nI 6) (pc' := 148) rfl rfl rfl ?_
                      refine wp_iconst (v := nI 0) (pc' := 149) rfl rfl rfl ?_
                      refine wp_sipush (v := nI 999) (pc' := 152) rfl rfl rfl ?_
                      refine wp_callV4 (pc' := 155) rfl rfl rfl rfl rfl (by first | exact TK.k1 hT rfl | exact TK.kk hT rfl | exact TK.r hT rfl | assumption) rfl rfl ?_
                      refine m_readNumber hT hR hpT h10 (by decide) (fun r J hr hJ => ?_)
                      refine Cont.v ?_
                      first | refine wp_ifeqB (pc' := 158) rfl rfl ?_ ?_ | refine wp_ifeq (pc' := 158) rfl rfl ?_ ?_
                      · intro h155
                        refine wp_iconst (v := nI 0) (pc' := 163) rfl rfl rfl ?_
                        refine wp_iret rfl rfl (by first | rfl | exact nar_if) ?_
                        first | exact Qv (kk r J ((wlin_9 (by unfold wd bogW; rw [pick_f h6, pick_f h21, pick_f h36, pick_f h50, pick_f h64, pick_f h78, pick_f h92, pick_f h110, pick_f h128, pick_t h142])).trans hr) hJ) (by rw [if_pos h155]) rfl | exact Qv (kk r J ((wlin_9 (by unfold wd bogW; rw [pick_f h6, pick_f h21, pick_f h36, pick_f h50, pick_f h64, pick_f h78, pick_f h92, pick_f h110, pick_f h128, pick_t h142])).trans hr) hJ) (by rw [if_neg h155]) rfl | exact kk _ _ (wlin_N (by unfold wd bogW; rw [pick_f h6, pick_f h21, pick_f h36, pick_f h50, pick_f h64, pick_f h78, pick_f h92, pick_f h110, pick_f h128, pick_f h142]; rfl)) ⟨fun _ _ _ => rfl, fun _ _ _ => rfl, fun z => absurd (show false = true from z) (by decide), fun _ => h12⟩
                      · intro h155
                        refine wp_iconst (v := nI 1) (pc' := 159) rfl rfl rfl ?_
                        refine wp_goto rfl ?_
                        refine wp_iret rfl rfl (by first | rfl | exact nar_if) ?_
                        first | exact Qv (kk r J ((wlin_9 (by unfold wd bogW; rw [pick_f h6, pick_f h21, pick_f h36, pick_f h50, pick_f h64, pick_f h78, pick_f h92, pick_f h110, pick_f h128, pick_t h142])).trans hr) hJ) (by rw [if_pos h155]) rfl | exact Qv (kk r J ((wlin_9 (by unfold wd bogW; rw [pick_f h6, pick_f h21, pick_f h36, pick_f h50, pick_f h64, pick_f h78, pick_f h92, pick_f h110, pick_f h128, pick_t h142])).trans hr) hJ) (by rw [if_neg h155]) rfl | exact kk _ _ (wlin_N (by unfold wd bogW; rw [pick_f h6, pick_f h21, pick_f h36, pick_f h50, pick_f h64, pick_f h78, pick_f h92, pick_f h110, pick_f h128, pick_f h142]; rfl)) ⟨fun _ _ _ => rfl, fun _ _ _ => rfl, fun z => absurd (show false = true from z) (by decide), fun _ => h12⟩
                  · intro h128
                    refine wp_aload0 (pc' := 132) rfl rfl ?_
                    refine wp_callV1 (pc' := 135) rfl rfl rfl rfl rfl (by first | exact TK.k1 hT rfl | exact TK.kk hT rfl | exact TK.r hT rfl | assumption) rfl rfl ?_
                    refine m_readRain hT ?_
                    refine Cont.v ?_
                    refine wp_iret rfl rfl (by first | rfl | exact nar_if) ?_
                    exact kk _ _ (wlin_8 (by unfold wd bogW; rw [pick_f h6, pick_f h21, pick_f h36, pick_f h50, pick_f h64, pick_f h78, pick_f h92, pick_f h110, pick_t h128])) ⟨fun a h1 h2 => upr_ne h2, fun j _ _ => by rw [upr_ne (by decide)], fun _ => ⟨upr_same, _, hpT, by rw [upr_ne (by decide)]; exact h10, rfl⟩, fun z => absurd (show true = false from z) (by decide)⟩
                · intro h110
                  refine wp_aload0 (pc' := 114) rfl rfl ?_
                  refine wp_iconst (v := nI 4) (pc' := 115) rfl rfl rfl ?_
                  refine wp_iconst (v := nI 0) (pc' := 116) rfl rfl rfl ?_
                  refine wp_bipush (v := nI 100) (pc' := 118) rfl rfl rfl ?_
                  refine wp_callV4 (pc' := 121) rfl rfl rfl rfl rfl (by first | exact TK.k1 hT rfl | exact TK.kk hT rfl | exact TK.r hT rfl | assumption) rfl rfl ?_
                  refine m_readNumber hT hR hpT h10 (by decide) (fun r J hr hJ => ?_)
                  refine Cont.v ?_
                  refine wp_iret rfl rfl (by first | rfl | exact nar_if) ?_
                  exact kk r J ((wlin_7 (by unfold wd bogW; rw [pick_f h6, pick_f h21, pick_f h36, pick_f h50, pick_f h64, pick_f h78, pick_f h92, pick_t h110])).trans hr) hJ
              · intro h92
                refine wp_aload0 (pc' := 96) rfl rfl ?_
                refine wp_iconst (v := nI 3) (pc' := 97) rfl rfl rfl ?_
                refine wp_iconst (v := nI 0) (pc' := 98) rfl rfl rfl ?_
                refine wp_bipush (v := nI 9) (pc' := 100) rfl rfl rfl ?_
                refine wp_callV4 (pc' := 103) rfl rfl rfl rfl rfl (by first | exact TK.k1 hT rfl | exact TK.kk hT rfl | exact TK.r hT rfl | assumption) rfl rfl ?_
                refine m_readNumber hT hR hpT h10 (by decide) (fun r J hr hJ => ?_)
                refine Cont.v ?_
                refine wp_iret rfl rfl (by first | rfl | exact nar_if) ?_
                exact kk r J ((wlin_6 (by unfold wd bogW; rw [pick_f h6, pick_f h21, pick_f h36, pick_f h50, pick_f h64, pick_f h78, pick_t h92])).trans hr) hJ
            · intro h78
              refine wp_aload0 (pc' := 82) rfl rfl ?_
              refine wp_callV1 (pc' := 85) rfl rfl rfl rfl rfl (by first | exact TK.k1 hT rfl | exact TK.kk hT rfl | exact TK.r hT rfl | assumption) rfl rfl ?_
              refine m_readRight hT hR hpT h10 hw hH6 (fun r J hr hJ => ?_)
              refine Cont.v ?_
              refine wp_iret rfl rfl (by first | rfl | exact nar_if) ?_
              exact kk r J ((wlin_5 (by unfold wd bogW; rw [pick_f h6, pick_f h21, pick_f h36, pick_f h50, pick_f h64, pick_t h78])).trans hr) hJ
          · intro h64
            refine wp_aload0 (pc' := 68) rfl rfl ?_
            refine wp_callV1 (pc' := 71) rfl rfl rfl rfl rfl (by first | exact TK.k1 hT rfl | exact TK.kk hT rfl | exact TK.r hT rfl | assumption) rfl rfl ?_
            refine m_readHearth (b0 := q) (H := H) hT hR hpT h10 hS hw hH6 h12 (fun r J hr hJ => ?_)
            refine Cont.v ?_
            refine wp_iret rfl rfl (by first | rfl | exact nar_if) ?_
            exact kk r J ((wlin_4 (by unfold wd bogW; rw [pick_f h6, pick_f h21, pick_f h36, pick_f h50, pick_t h64])).trans hr) hJ
        · intro h50
          refine wp_aload0 (pc' := 54) rfl rfl ?_
          refine wp_callV1 (pc' := 57) rfl rfl rfl rfl rfl (by first | exact TK.k1 hT rfl | exact TK.kk hT rfl | exact TK.r hT rfl | assumption) rfl rfl ?_
          refine m_readTurves hT hR hpT h10 hS (fun r J hr hJ => ?_)
          refine Cont.v ?_
          refine wp_iret rfl rfl (by first | rfl | exact nar_if) ?_
          exact kk r J ((wlin_3 (by unfold wd bogW; rw [pick_f h6, pick_f h21, pick_f h36, pick_t h50])).trans hr) hJ
      · intro h36
        refine wp_aload0 (pc' := 40) rfl rfl ?_
        refine wp_callV1 (pc' := 43) rfl rfl rfl rfl rfl (by first | exact TK.k1 hT rfl | exact TK.kk hT rfl | exact TK.r hT rfl | assumption) rfl rfl ?_
        refine m_readDrain hT hR hpT h10 (fun r J hr hJ => ?_)
        refine Cont.v ?_
        refine wp_iret rfl rfl (by first | rfl | exact nar_if) ?_
        exact kk r J ((wlin_2 (by unfold wd bogW; rw [pick_f h6, pick_f h21, pick_t h36])).trans hr) hJ
    · intro h21
      refine wp_aload0 (pc' := 25) rfl rfl ?_
      refine wp_iconst (v := nI 1) (pc' := 26) rfl rfl rfl ?_
      refine wp_callV2 (pc' := 29) rfl rfl rfl rfl rfl (by first | exact TK.k1 hT rfl | exact TK.kk hT rfl | exact TK.r hT rfl | assumption) rfl rfl ?_
      refine m_readCells hT hR hpT h10 (by decide) (fun r J hr hJ => ?_)
      refine Cont.v ?_
      refine wp_iret rfl rfl (by first | rfl | exact nar_if) ?_
      exact kk r J ((wlin_1 (by unfold wd bogW; rw [pick_f h6, pick_t h21])).trans hr) hJ
  · intro h6
    refine wp_aload0 (pc' := 10) rfl rfl ?_
    refine wp_iconst (v := nI 0) (pc' := 11) rfl rfl rfl ?_
    refine wp_callV2 (pc' := 14) rfl rfl rfl rfl rfl (by first | exact TK.k1 hT rfl | exact TK.kk hT rfl | exact TK.r hT rfl | assumption) rfl rfl ?_
    refine m_readCells hT hR hpT h10 (by decide) (fun r J hr hJ => ?_)
    refine Cont.v ?_
    refine wp_iret rfl rfl (by first | rfl | exact nar_if) ?_
    exact kk r J ((wlin_0 (by unfold wd bogW; rw [pick_t h6])).trans hr) hJ
def wlLn (tv : Nat → Nat) (T i : Nat) (w : Nat → Int32) (p H : Nat) : Bool × (Nat → Int32) × Nat := if i < 14 then wlLin tv T w p H else (false, w, p)

theorem m_lineB {d : Nat} {K : Nat → Nat × Nat} {I : Nat → Nat → Int32} {L : Nat → Nat → Int64} {R : Nat → Nat → Option Nat} {n s : Nat} {Q : Lo → Lm → Prop} {T p i H : Nat} {tv : Nat → Nat} (hT : TK K R n) (hR : RfI I T tv) (hp : p ≤ T) (h10 : I 318 10 = nI p) (hS : SS K I R) (hi9 : i ≤ 14) (hw : I 319 0 = nI H) (hH6 : H ≤ 6) (kk : ∀ r J, wlLn tv T i (I 319) (skp tv T p) H = r → RdJ T tv I r J → Q (.inl (some (.int (if r.1 = true then nI 1 else nI 0)))) (K, J, L, R, n, s)) : Ok (d + 8) 224 [.ref 318, .int (nI 1), .int (nI i)] (K, I, L, R, n, s) Q := by
  obtain ⟨-, -, hn⟩ := id hT
  refine Ok.enter (F := F_224) (ls := [.ref 318, .int (nI 1), .int (nI i)]) rfl rfl ?_
  refine wp_aload0 (pc' := 1) rfl rfl ?_
  refine wp_callV1 (pc' := 4) rfl rfl rfl rfl rfl (by first | exact TK.k1 hT rfl | exact TK.kk hT rfl | exact TK.r hT rfl | assumption) rfl rfl ?_
  refine m_lettersTJ hT hR hp h10 (fun J1 hJ1 => ?_)
  obtain ⟨q, hq⟩ : ∃ q, skp tv T p = q := ⟨_, rfl⟩
  have hqT := (skp_ge (tv := tv) hp).2
  have hlT := letN_le (tv := tv) (T := T) (p := q)
  rw [hq] at hJ1 hqT kk
  refine Cont.u ?_
  refine wp_iload2 (pc' := 5) rfl rfl ?_
  refine wp_iload1 (pc' := 6) rfl rfl ?_
  refine wp_ifeqF (pc' := 9) rfl (by decide) rfl ?_
  refine wp_bipush (v := nI 14) (pc' := 11) rfl rfl rfl ?_
  refine wp_goto rfl ?_
  refine wp_icmpge (pc' := 19) rfl rfl ?_ ?_
  · intro h16
    refine wp_iconst (v := nI 0) (pc' := 46) rfl rfl rfl ?_
    refine wp_iret rfl rfl (by first | rfl | exact nar_if) ?_
    first | exact Qv (kk r J ((if_pos hi14).trans hr) (tk_up hJ1 hJ)) (by rw [if_pos h27]) rfl | exact Qv (kk r J ((if_pos hi14).trans hr) (tk_up hJ1 hJ)) (by rw [if_neg h27]) rfl | exact kk _ _ (if_neg (fun z => h16 (nI_lt z (by omega)))) (rd_f hJ1)
  · intro h16
    refine wp_iload1 (pc' := 20) rfl rfl ?_
    refine wp_ifeqF (pc' := 23) rfl (by decide) rfl ?_
    refine wp_aload0 (pc' := 24) rfl rfl ?_
    refine wp_callV1 (pc' := 27) rfl rfl rfl rfl rfl (by first | exact TK.k1 hT rfl | exact TK.kk hT rfl | exact TK.r hT rfl | assumption) rfl rfl ?_
    refine m_bogLine (q := q) (H := H) hT (tk_rd hJ1 hR) (tk_ss hJ1 hS) hqT hJ1.2.2.1 hJ1.2.2.2 (by rw [hJ1.1 319 (by decide)]; exact hw) hH6 (fun r J hr hJ => ?_)
    rw [hJ1.1 319 (by decide)] at hr
    have hi14 := nI_lt_inv (by omega) (by omega) h16
    refine Cont.v ?_
    first | refine wp_ifeqB (pc' := 30) rfl rfl ?_ ?_ | refine wp_ifeq (pc' := 30) rfl rfl ?_ ?_
    · intro h27
      refine wp_iconst (v := nI 0) (pc' := 46) rfl rfl rfl ?_
      refine wp_iret rfl rfl (by first | rfl | exact nar_if) ?_
      first | exact Qv (kk r J ((if_pos hi14).trans hr) (tk_up hJ1 hJ)) (by rw [if_pos h27]) rfl | exact Qv (kk r J ((if_pos hi14).trans hr) (tk_up hJ1 hJ)) (by rw [if_neg h27]) rfl | exact kk _ _ (if_neg (fun z => h16 (nI_lt z (by omega)))) (rd_f hJ1)
    · intro h27
      refine wp_goto rfl ?_
      refine wp_iconst (v := nI 1) (pc' := 42) rfl rfl rfl ?_
      refine wp_goto rfl ?_
      refine wp_iret rfl rfl (by first | rfl | exact nar_if) ?_
      first | exact Qv (kk r J ((if_pos hi14).trans hr) (tk_up hJ1 hJ)) (by rw [if_pos h27]) rfl | exact Qv (kk r J ((if_pos hi14).trans hr) (tk_up hJ1 hJ)) (by rw [if_neg h27]) rfl | exact kk _ _ (if_neg (fun z => h16 (nI_lt z (by omega)))) (rd_f hJ1)
/-- index 0 after a line -/
def H0 (r : Bool × (Nat → Int32) × Nat) : Prop := r.1 = true → ∃ H, H ≤ 6 ∧ r.2.1 0 = nI H
theorem wlRowF_0 {tv : Nat → Nat} {T k : Nat} : ∀ f c w p, (wlRowF tv T k f c w p).2.1 0 = w 0
  | 0, c, w, p => rfl
  | f + 1, c, w, p => by
    cases hN : numR tv T p (nI 0) (nI 9) with
    | none => rw [wrow_n hN]
    | some x =>
      obtain ⟨v, z⟩ := x
      rw [wrow_s hN]
      split
      · rw [wlRowF_0 f]; exact up1_ne (by omega)
      · exact up1_ne (by omega)
theorem drnW_0 {w : Nat → Int32} {x : Int32} : ∀ i, drnW w x i 0 = w 0
  | 0 => rfl
  | i + 1 => by rw [drnW_s, up1_ne (by omega)]; exact drnW_0 i
theorem wlLin_H {tv : Nat → Nat} {T p H : Nat} {w : Nat → Int32} (hw : w 0 = nI H) (hH : H ≤ 6) : H0 (wlLin tv T w p H) := by
  have hnum : ∀ k hi q, 0 < k → H0 (wlNum tv T k hi w q) := fun k hi q hk hz => by
    cases hN : numR tv T q (nI 0) (nI hi) with
    | none => rw [wlNum_n hN] at hz; exact absurd (show false = true from hz) (by decide)
    | some x => obtain ⟨v, z⟩ := x; rw [wlNum_s hN]; exact ⟨H, hH, (up1_ne (by omega)).trans hw⟩
  have hrow : ∀ k q, H0 (wlRow tv T k w q) := fun k q hz => by
    cases hN : numR tv T q (nI 0) (nI 24) with
    | none => rw [wrw_n hN] at hz; exact absurd (show false = true from hz) (by decide)
    | some x => obtain ⟨v, z⟩ := x; rw [wrw_s hN]; exact ⟨H, hH, (wlRowF_0 _ _ _ _).trans hw⟩
  cases hk : wd tv T p bogW with
  | none => rw [wlin_N hk]; exact fun z => absurd (show false = true from z) (by decide)
  | some k =>
    have hl := (pickW_lt bogW 0 k hk).2
    have : k = 0 ∨ k = 1 ∨ k = 2 ∨ k = 3 ∨ k = 4 ∨ k = 5 ∨ k = 6 ∨ k = 7 ∨ k = 8 ∨ k = 9 := by
      have : bogW.length = 10 := rfl
      omega
    rcases this with rfl | rfl | rfl | rfl | rfl | rfl | rfl | rfl | rfl | rfl
    · rw [wlin_0 hk]; exact hrow _ _
    · rw [wlin_1 hk]; exact hrow _ _
    · rw [wlin_2 hk]
      intro z
      cases hc : celL tv T (af tv T p) with
      | mk a b =>
        cases a with
        | none => rw [wdrn_n hc] at z; exact absurd (show false = true from z) (by decide)
        | some x => rw [wdrn_s hc]; exact ⟨H, hH, by show drnW w x 25 0 = nI H; rw [drnW_0]; exact hw⟩
    · rw [wlin_3 hk]
      intro z
      cases h0 : numR tv T (af tv T p) (nI 0) (nI 24) with
      | none => rw [wtur_0 h0] at z; exact absurd (show false = true from z) (by decide)
      | some x =>
        obtain ⟨c, z0⟩ := x
        cases h1 : numR tv T z0 (nI 1) (nI 99) with
        | none => rw [wtur_1 h0 h1] at z; exact absurd (show false = true from z) (by decide)
        | some y =>
          obtain ⟨mm, z1⟩ := y
          cases h2 : optN tv T z1 kDry 99 with
          | none => rw [wtur_2 h0 h1 h2] at z; exact absurd (show false = true from z) (by decide)
          | some u => obtain ⟨y2, z2⟩ := u; rw [wtur_3 h0 h1 h2]; exact ⟨H, hH, by show turW w c mm y2 0 = nI H; unfold turW; rw [up1_ne (by omega), up1_ne (by omega), up1_ne (by omega)]; exact hw⟩
    · rw [wlin_4 hk]
      intro z
      by_cases h6 : 6 ≤ H
      · rw [whea_6 h6] at z; exact absurd (show false = true from z) (by decide)
      · cases h0 : mstN tv T (af tv T p) kHands (nI 1) 9 with
        | none => rw [whea_0 h6 h0] at z; exact absurd (show false = true from z) (by decide)
        | some x =>
          obtain ⟨c, z0⟩ := x
          cases h1 : mstN tv T z0 kNeed (nI 0) 99 with
          | none => rw [whea_1 h6 h0 h1] at z; exact absurd (show false = true from z) (by decide)
          | some y =>
            obtain ⟨mm, z1⟩ := y
            cases h2 : optN tv T z1 kStore 999 with
            | none => rw [whea_2 h6 h0 h1 h2] at z; exact absurd (show false = true from z) (by decide)
            | some u => obtain ⟨y2, z2⟩ := u; rw [whea_3 h6 h0 h1 h2]; exact ⟨H + 1, by omega, by show heaW w H c mm y2 0 = nI (H + 1); unfold heaW; exact up1_hit⟩
    · rw [wlin_5 hk]
      intro z
      cases h0 : numR tv T (af tv T p) (nI 0) (nI H - nI 1) with
      | none => rw [wrgt_0 h0] at z; exact absurd (show false = true from z) (by decide)
      | some x =>
        obtain ⟨c, z0⟩ := x
        cases hc : celL tv T z0 with
        | mk a b =>
          cases a with
          | none => rw [wrgt_1 h0 hc] at z; exact absurd (show false = true from z) (by decide)
          | some x => rw [wrgt_2 h0 hc]; exact ⟨H, hH, by show up1 w (159 + 4 * c + 3) (w (159 + 4 * c + 3) ||| x) 0 = nI H; rw [up1_ne (by omega)]; exact hw⟩
    · rw [wlin_6 hk]; exact hnum _ _ _ (by decide)
    · rw [wlin_7 hk]; exact hnum _ _ _ (by decide)
    · rw [wlin_8 hk]; exact fun _ => ⟨H, hH, by show up1 w 5 (nI 1) 0 = nI H; rw [up1_ne (by decide)]; exact hw⟩
    · rw [wlin_9 hk]; exact hnum _ _ _ (by decide)
def wlAll (tv : Nat → Nat) (T : Nat) : Nat → (Nat → Int32) → Nat → Bool × (Nat → Int32) × Nat
  | 0, w, p => (false, w, p)
  | f + 1, w, p => if (wlLin tv T w p (tn (w 0))).1 = true then (if T ≤ (wlLin tv T w p (tn (w 0))).2.2 then wlLin tv T w p (tn (w 0)) else if tv (wlLin tv T w p (tn (w 0))).2.2 = 59 then wlAll tv T f (wlLin tv T w p (tn (w 0))).2.1 (skp tv T ((wlLin tv T w p (tn (w 0))).2.2 + 1)) else (false, (wlLin tv T w p (tn (w 0))).2)) else wlLin tv T w p (tn (w 0))
def wlBog (tv : Nat → Nat) (T : Nat) (w : Nat → Int32) (p : Nat) : Bool × (Nat → Int32) × Nat := if T ≤ p then (true, w, p) else wlAll tv T 14 w p
/-- what a whole text leaves -/
def AlJ (I : Mem) (r : Bool × (Nat → Int32) × Nat) (J : Mem) : Prop := (∀ a, a ≠ 318 → a ≠ 319 → J a = I a) ∧ (∀ j, (j = 6 ∨ j = 7) → J 318 j = I 318 j) ∧ J 318 0 = nI 0 ∧ J 318 9 = nI 0 ∧ (r.1 = true → J 319 = r.2.1) ∧ (r.1 = false → J 318 12 = nI r.2.2)
/-- a text, as far as it is read -/
def AlI (T : Nat) (tv : Nat → Nat) (I : Mem) (J : Mem) : Prop := (∀ a, a ≠ 318 → a ≠ 319 → J a = I a) ∧ (∀ j, (j = 6 ∨ j = 7) → J 318 j = I 318 j) ∧ J 318 0 = nI 0 ∧ J 318 9 = nI 0 ∧ J 318 11 = nI T
theorem al_rd {T : Nat} {tv : Nat → Nat} {I J N : Mem} {r : Bool × (Nat → Int32) × Nat} (h : AlI T tv I J) (g : RdJ T tv J r N) : AlI T tv I N := ⟨fun a a1 a2 => (g.1 a a1 a2).trans (h.1 a a1 a2), fun j hj => (g.2.1 j (by omega) (by omega)).trans (h.2.1 j hj), (g.2.1 0 (by decide) (by decide)).trans h.2.2.1, (g.2.1 9 (by decide) (by decide)).trans h.2.2.2.1, (g.2.1 11 (by decide) (by decide)).trans h.2.2.2.2⟩
theorem al_tk {T p b : Nat} {tv : Nat → Nat} {I J N : Mem} (h : AlI T tv I J) (g : TkJ J N p b) : AlI T tv I N := ⟨fun a a1 a2 => (g.1 a a1).trans (h.1 a a1 a2), fun j hj => (g.2.1 j (by omega) (by omega)).trans (h.2.1 j hj), (g.2.1 0 (by decide) (by decide)).trans h.2.2.1, (g.2.1 9 (by decide) (by decide)).trans h.2.2.2.1, (g.2.1 11 (by decide) (by decide)).trans h.2.2.2.2⟩
theorem al_rf {T : Nat} {tv : Nat → Nat} {I J : Mem} (h : AlI T tv I J) (hT : T ≤ 400) (ht : TpW (I 324) tv) : RfI J T tv := ⟨h.2.2.2.2, hT, by rw [h.1 324 (by decide) (by decide)]; exact ht⟩
theorem al_fin {T : Nat} {tv : Nat → Nat} {I J : Mem} {r : Bool × (Nat → Int32) × Nat} (h : AlI T tv I J) (h1 : r.1 = true → J 319 = r.2.1) (h2 : r.1 = false → J 318 12 = nI r.2.2) : AlJ I r J := ⟨h.1, h.2.1, h.2.2.1, h.2.2.2.1, h1, h2⟩

