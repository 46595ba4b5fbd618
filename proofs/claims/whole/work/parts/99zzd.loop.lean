/-! THE LAW: the loop -/
theorem and_63 (x : Int32) : ∃ k, k < 64 ∧ x &&& nI 63 = nI k := by
  refine ⟨tN x % 64, Nat.mod_lt _ (by decide), tN_eq ?_⟩
  rw [tN_and, tN_n 63 (by decide), show (63 : Nat) = 2 ^ 6 - 1 from rfl, Nat.and_two_pow_sub_one_eq_mod]
def LwQ (o : Lo) (_ : Lm) : Prop := o = .inl (some (.int (nI 1)))
theorem lw_exit {N d : Nat} {xs : Nat → Int32} {K : Nat → Nat × Nat} {I : Mem} {L : Nat → Nat → Int64} {R : Nat → Nat → Option Nat} {n s i : Nat} {v5 v6 : Value} (h : Sim N xs K I L R n) (hN : N ≤ 3072) (hi : ¬ i + 6 ≤ N) (hi2 : i ≤ 4000) : WP (d + 40) F_369 23 [.ref lmScr, .ref 0, .ref 318, .ref 337, .int (nI i), v5, v6] [] (K, I, L, R, n, s) LwQ := by
  have hsc := h.1.2.2.2.1
  refine wp_iload4 (pc' := 25) rfl rfl ?_
  refine wp_aload0 (pc' := 26) rfl rfl ?_
  refine wp_alen (pc' := 27) rfl hsc rfl rfl rfl ?_
  refine wp_bipush (v := nI 6) (pc' := 29) rfl rfl rfl ?_
  refine wp_isub (pc' := 30) rfl rfl ?_
  refine wp_icmpgtT rfl ?_ ?_
  · by_cases q : 6 ≤ N
    · rw [nI_sub q]; exact nI_lt (by omega) (by omega)
    · have h1 := neg_nI N 6 (by omega) (by decide)
      by_cases z : i = 0
      · rw [z]; exact h1
      · exact Int32.lt_trans h1 (nI_lt (by omega) (by omega))
  · refine wp_iconst (v := nI 1) (pc' := 2664) rfl rfl rfl ?_
    exact wp_iret rfl rfl rfl rfl
theorem lw_loop (hPl : PlT) (hPa : PaT) {N d : Nat} {xs : Nat → Int32} (hN : N ≤ 3072) : ∀ f i K I L R n s v5 v6, isL v5 = false → isL v6 = false → Sim N xs K I L R n → N < i + 6 + 6 * f → i ≤ N + 6 → n + 6 * f ≤ lmCells → s + 876 * f ≤ lmSlots → WP (d + 40) F_369 23 [.ref lmScr, .ref 0, .ref 318, .ref 337, .int (nI i), v5, v6] [] (K, I, L, R, n, s) LwQ := by
  intro f
  induction f with
  | zero =>
    intro i K I L R n s v5 v6 h5 h6 h hf hi2 hn hs
    exact lw_exit h hN (by omega) (by omega)
  | succ f ih =>
    intro i K I L R n s v5 v6 h5 h6 h hf hi2 hn hs
    by_cases hi : i + 6 ≤ N
    · have hsc := h.1.2.2.2.1
      have hxs := h.1.2.2.2.2.1.1
      have kk : NxT N xs (d + 40) LwQ i n s := fun K I L R n2 s2 v5 v6 a5 a6 hS hn2 hs2 => by
        refine wp_iinc4 (w := nI 6) (pc' := 2660) rfl rfl rfl (nI_add i 6) rfl ?_
        refine wp_goto rfl ?_
        exact ih (i + 6) K I L R n2 s2 v5 v6 a5 a6 hS (by omega) (by omega) (Nat.le_trans (by omega) hn) (Nat.le_trans (by omega) hs)
      have hn6 : n + 6 ≤ lmCells := Nat.le_trans (by omega) hn
      have hs8 : s + 876 ≤ lmSlots := Nat.le_trans (Nat.add_le_add_left (Nat.le_mul_of_pos_right 876 (Nat.succ_pos f)) s) hs
      refine wp_iload4 (pc' := 25) rfl rfl ?_
      refine wp_aload0 (pc' := 26) rfl rfl ?_
      refine wp_alen (pc' := 27) rfl hsc rfl rfl rfl ?_
      refine wp_bipush (v := nI 6) (pc' := 29) rfl rfl rfl ?_
      refine wp_isub (pc' := 30) rfl rfl ?_
      refine wp_icmpgtF (pc' := 33) rfl (by rw [nI_sub (by omega)]; exact nI_nlt (by omega) (by omega)) rfl ?_
      refine wp_aload0 (pc' := 34) rfl rfl ?_
      refine wp_iload4 (pc' := 36) rfl rfl ?_
      refine wp_iald i (pc' := 37) rfl hsc rfl (by omega) (by omega) rfl ?_
      refine wp_bipush (v := nI 63) (pc' := 39) rfl rfl rfl ?_
      refine wp_iand (pc' := 40) rfl rfl ?_
      obtain ⟨k, hk, e⟩ := and_63 (I lmScr i)
      rw [e]
      have hk2 : k = 0 ∨ k = 1 ∨ k = 2 ∨ k = 3 ∨ k = 4 ∨ k = 5 ∨ k = 6 ∨ k = 7 ∨ k = 8 ∨ k = 9 ∨ k = 10 ∨ k = 11 ∨ k = 12 ∨ k = 13 ∨ k = 14 ∨ k = 15 ∨ k = 16 ∨ k = 17 ∨ k = 18 ∨ k = 19 ∨ k = 20 ∨ k = 21 ∨ k = 22 ∨ k = 23 ∨ k = 24 ∨ k = 25 ∨ k = 26 ∨ k = 27 ∨ k = 28 ∨ k = 29 ∨ k = 30 ∨ k = 31 ∨ k = 32 ∨ k = 33 ∨ k = 34 ∨ k = 35 ∨ k = 36 ∨ k = 37 ∨ k = 38 ∨ k = 39 ∨ k = 40 ∨ k = 41 ∨ k = 42 ∨ k = 43 ∨ k = 44 ∨ k = 45 ∨ k = 46 ∨ k = 47 ∨ k = 48 ∨ k = 49 ∨ k = 50 ∨ k = 51 ∨ k = 52 ∨ k = 53 ∨ k = 54 ∨ k = 55 ∨ k = 56 ∨ k = 57 ∨ k = 58 ∨ k = 59 ∨ k = 60 ∨ k = 61 ∨ k = 62 ∨ k = 63 := by omega
      rcases hk2 with rfl | rfl | rfl | rfl | rfl | rfl | rfl | rfl | rfl | rfl | rfl | rfl | rfl | rfl | rfl | rfl | rfl | rfl | rfl | rfl | rfl | rfl | rfl | rfl | rfl | rfl | rfl | rfl | rfl | rfl | rfl | rfl | rfl | rfl | rfl | rfl | rfl | rfl | rfl | rfl | rfl | rfl | rfl | rfl | rfl | rfl | rfl | rfl | rfl | rfl | rfl | rfl | rfl | rfl | rfl | rfl | rfl | rfl | rfl | rfl | rfl | rfl | rfl | rfl
      · exact wp_sw (tg := 268) rfl rfl (k_0 h hn6 hs8 hi hN h5 h6 kk)
      · exact wp_sw (tg := 341) rfl rfl (k_1 h hn6 hs8 hi hN h5 h6 kk)
      · exact wp_sw (tg := 366) rfl rfl (k_2 h hn6 hs8 hi hN h5 h6 kk)
      · exact wp_sw (tg := 410) rfl rfl (k_3 h hn6 hs8 hi hN h5 h6 kk)
      · exact wp_sw (tg := 454) rfl rfl (k_4 h hn6 hs8 hi hN h5 h6 kk)
      · exact wp_sw (tg := 467) rfl rfl (k_5 h hn6 hs8 hi hN h5 h6 kk)
      · exact wp_sw (tg := 535) rfl rfl (k_6 h hn6 hs8 hi hN h5 h6 kk)
      · exact wp_sw (tg := 603) rfl rfl (k_7 h hn6 hs8 hi hN h5 h6 kk)
      · exact wp_sw (tg := 659) rfl rfl (k_8 h hn6 hs8 hi hN h5 h6 kk)
      · exact wp_sw (tg := 727) rfl rfl (k_9 h hn6 hs8 hi hN h5 h6 kk)
      · exact wp_sw (tg := 783) rfl rfl (k_10 h hn6 hs8 hi hN h5 h6 kk)
      · exact wp_sw (tg := 851) rfl rfl (k_11 h hn6 hs8 hi hN h5 h6 kk)
      · exact wp_sw (tg := 914) rfl rfl (k_12 h hn6 hs8 hi hN h5 h6 kk)
      · exact wp_sw (tg := 977) rfl rfl (k_13 h hn6 hs8 hi hN h5 h6 kk)
      · exact wp_sw (tg := 1080) rfl rfl (k_14 h hn6 hs8 hi hN h5 h6 kk)
      · exact wp_sw (tg := 1160) rfl rfl (k_15 h hn6 hs8 hi hN h5 h6 kk)
      · exact wp_sw (tg := 1244) rfl rfl (k_16 h hn6 hs8 hi hN h5 h6 kk)
      · exact wp_sw (tg := 1257) rfl rfl (k_17 h hn6 hs8 hi hN h5 h6 kk)
      · exact wp_sw (tg := 1270) rfl rfl (k_18 h hn6 hs8 hi hN h5 h6 kk)
      · exact wp_sw (tg := 1314) rfl rfl (k_19 h hn6 hs8 hi hN h5 h6 kk)
      · exact wp_sw (tg := 1327) rfl rfl (k_20 h hn6 hs8 hi hN h5 h6 kk)
      · exact wp_sw (tg := 1371) rfl rfl (k_21 h hn6 hs8 hi hN h5 h6 kk)
      · exact wp_sw (tg := 1415) rfl rfl (k_22 h hn6 hs8 hi hN h5 h6 kk)
      · exact wp_sw (tg := 1459) rfl rfl (k_23 h hn6 hs8 hi hN h5 h6 kk)
      · exact wp_sw (tg := 1531) rfl rfl (k_24 h hn6 hs8 hi hN h5 h6 kk)
      · exact wp_sw (tg := 1575) rfl rfl (k_25 hPl h hn6 hs8 hi hN h5 h6 kk)
      · exact wp_sw (tg := 1631) rfl rfl (k_26 h hn6 hs8 hi hN h5 h6 kk)
      · exact wp_sw (tg := 1644) rfl rfl (k_27 h hn6 hs8 hi hN h5 h6 kk)
      · exact wp_sw (tg := 1669) rfl rfl (k_28 h hn6 hs8 hi hN h5 h6 kk)
      · exact wp_sw (tg := 1694) rfl rfl (k_29 h hn6 hs8 hi hN h5 h6 kk)
      · exact wp_sw (tg := 1707) rfl rfl (k_30 h hn6 hs8 hi hN h5 h6 kk)
      · exact wp_sw (tg := 1763) rfl rfl (k_31 h hn6 hs8 hi hN h5 h6 kk)
      · exact wp_sw (tg := 1776) rfl rfl (k_32 h hn6 hs8 hi hN h5 h6 kk)
      · exact wp_sw (tg := 1844) rfl rfl (k_33 hPa h hn6 hs8 hi hN h5 h6 kk)
      · exact wp_sw (tg := 1900) rfl rfl (k_34 h hn6 hs8 hi hN h5 h6 kk)
      · exact wp_sw (tg := 1968) rfl rfl (k_35 h hn6 hs8 hi hN h5 h6 kk)
      · exact wp_sw (tg := 2036) rfl rfl (k_36 h hn6 hs8 hi hN h5 h6 kk)
      · exact wp_sw (tg := 2049) rfl rfl (k_37 h hn6 hs8 hi hN h5 h6 kk)
      · exact wp_sw (tg := 2062) rfl rfl (k_38 h hn6 hs8 hi hN h5 h6 kk)
      · exact wp_sw (tg := 2075) rfl rfl (k_39 h hn6 hs8 hi hN h5 h6 kk)
      · exact wp_sw (tg := 2088) rfl rfl (k_40 h hn6 hs8 hi hN h5 h6 kk)
      · exact wp_sw (tg := 2101) rfl rfl (k_41 h hn6 hs8 hi hN h5 h6 kk)
      · exact wp_sw (tg := 2114) rfl rfl (k_42 h hn6 hs8 hi hN h5 h6 kk)
      · exact wp_sw (tg := 2170) rfl rfl (k_43 h hn6 hs8 hi hN h5 h6 kk)
      · exact wp_sw (tg := 2250) rfl rfl (k_44 h hn6 hs8 hi hN h5 h6 kk)
      · exact wp_sw (tg := 2334) rfl rfl (k_45 h hn6 hs8 hi hN h5 h6 kk)
      · exact wp_sw (tg := 2418) rfl rfl (k_46 h hn6 hs8 hi hN h5 h6 kk)
      · exact wp_sw (tg := 2502) rfl rfl (k_47 h hn6 hs8 hi hN h5 h6 kk)
      · exact wp_sw (tg := 2570) rfl rfl (k_48 h hn6 hs8 hi hN h5 h6 kk)
      · exact wp_sw (tg := 2595) rfl rfl (k_49 h hn6 hs8 hi hN h5 h6 kk)
      · exact wp_sw (tg := 2608) rfl rfl (k_50 h hn6 hs8 hi hN h5 h6 kk)
      · exact wp_sw (tg := 2619) rfl rfl (k_51 h hn6 hs8 hi hN h5 h6 kk)
      · exact wp_sw (tg := 2632) rfl rfl (k_52 h hn6 hs8 hi hN h5 h6 kk)
      · exact wp_sw (tg := 2657) rfl rfl (kk K I L R n s v5 v6 h5 h6 h (by omega) (by omega))
      · exact wp_sw (tg := 2657) rfl rfl (kk K I L R n s v5 v6 h5 h6 h (by omega) (by omega))
      · exact wp_sw (tg := 2657) rfl rfl (kk K I L R n s v5 v6 h5 h6 h (by omega) (by omega))
      · exact wp_sw (tg := 2657) rfl rfl (kk K I L R n s v5 v6 h5 h6 h (by omega) (by omega))
      · exact wp_sw (tg := 2657) rfl rfl (kk K I L R n s v5 v6 h5 h6 h (by omega) (by omega))
      · exact wp_sw (tg := 2657) rfl rfl (kk K I L R n s v5 v6 h5 h6 h (by omega) (by omega))
      · exact wp_sw (tg := 2657) rfl rfl (kk K I L R n s v5 v6 h5 h6 h (by omega) (by omega))
      · exact wp_sw (tg := 2657) rfl rfl (kk K I L R n s v5 v6 h5 h6 h (by omega) (by omega))
      · exact wp_sw (tg := 2657) rfl rfl (kk K I L R n s v5 v6 h5 h6 h (by omega) (by omega))
      · exact wp_sw (tg := 2657) rfl rfl (kk K I L R n s v5 v6 h5 h6 h (by omega) (by omega))
      · exact wp_sw (tg := 2657) rfl rfl (kk K I L R n s v5 v6 h5 h6 h (by omega) (by omega))
    · exact lw_exit h hN hi (by omega)
/-! the start -/
theorem obr_j : ∀ j : Fin 16, r0 0 j.1 = obR j.1 := by decide +kernel
theorem omr_j : ∀ j : Fin 28, r0 318 j.1 = omR j.1 := by decide +kernel
theorem nth_big {α : Type} : ∀ (l : List α) i, l.length ≤ i → nthO l i = none
  | [] => fun _ _ => rfl
  | a :: l => fun i h => by
    cases i with
    | zero => exact absurd h (Nat.not_succ_le_zero _)
    | succ i => exact nth_big l i (Nat.le_of_succ_le_succ h)
theorem r0_0 {j b : Nat} (h : r0 0 j = some b) : obR j = some b := by
  by_cases q : j < 16
  · rw [← obr_j ⟨j, q⟩]; exact h
  · have : r0 0 j = none := by
      show (match nthO [1, 13, 25, 0, 37, 0, 38, 0, 0, 39, 40, 41, 46, 66, 69, 172] j with
        | some 0 => none
        | x => x) = none
      rw [nth_big [1, 13, 25, 0, 37, 0, 38, 0, 0, 39, 40, 41, 46, 66, 69, 172] j (show 16 ≤ j by omega)]
    rw [this] at h; cases h
theorem r0_318 {j b : Nat} (h : r0 318 j = some b) : omR j = some b := by
  by_cases q : j < 28
  · rw [← omr_j ⟨j, q⟩]; exact h
  · have : r0 318 j = none := by
      show (match nthO [0, 319, 320, 321, 322, 323, 0, 0, 324, 0, 0, 0, 0, 0, 0, 325, 0, 326, 327, 328, 329, 330, 331, 332, 333, 334, 335, 336] j with
        | some 0 => none
        | x => x) = none
      rw [nth_big [0, 319, 320, 321, 322, 323, 0, 0, 324, 0, 0, 0, 0, 0, 0, 325, 0, 326, 327, 328, 329, 330, 331, 332, 333, 334, 335, 336] j (show 28 ≤ j by omega)]
    rw [this] at h; cases h
theorem r0_hi {a j b : Nat} (ha : 318 < a) (h : r0 a j = some b) : False := by
  unfold r0 at h
  rw [beq_f (show ¬ a = 0 by omega), beq_f (show ¬ a = 1 by omega), beq_f (show ¬ a = 11 by omega), beq_f (show ¬ a = 13 by omega), beq_f (show ¬ a = 23 by omega), beq_f (show ¬ a = 25 by omega), beq_f (show ¬ a = 35 by omega), beq_f (show ¬ a = 39 by omega), beq_f (show ¬ a = 40 by omega), beq_f (show ¬ a = 41 by omega), beq_f (show ¬ a = 46 by omega), beq_f (show ¬ a = 49 by omega), beq_f (show ¬ a = 66 by omega), beq_f (show ¬ a = 69 by omega), beq_f (show ¬ a = 70 by omega), beq_f (show ¬ a = 172 by omega), blt_f (show 174 ≤ a by omega), blt_f (show 318 ≤ a by omega), beq_f (show ¬ a = 318 by omega)] at h
  cases h
theorem i0_st {b k j : Nat} (hb : isSt b) (hk : k < 12) : i0 (b + k) j = iS k j := by
  unfold i0
  rcases hb with ⟨h1, h2, h3⟩ | ⟨h1, h2, h3⟩
  · rw [show Nat.blt (b + k) 37 = true from Nat.blt_eq.mpr (by omega), beq_f (show ¬ b + k = 0 by omega), show (b + k - 1) % 12 = k by omega]; rfl
  · rw [blt_f (show 37 ≤ b + k by omega), blt_f (show 174 ≤ b + k by omega), show Nat.blt (b + k) 318 = true from Nat.blt_eq.mpr (by omega), show (b + k - 174) % 12 = k by omega]; rfl
theorem iS_n : Nrm iS := fun k j h => by
  unfold inS at h
  unfold iS
  by_cases k0 : k = 0
  · rw [if_pos k0] at h ⊢
    have := of_decide_eq_false h
    rw [if_neg (by omega), if_neg (by omega)]; rfl
  · rw [if_neg k0] at h ⊢
    by_cases k2 : k = 2
    · rw [if_pos k2]
      rw [if_pos (by omega)] at h
      have := of_decide_eq_false h
      rw [if_neg this]; rfl
    · rw [if_neg k2]; rfl
theorem wz_c {c f : Nat} (hc : c < 25) (hf : f < 6) : wz 25 (9 + 6 * c + f) = if f = 1 then nI 5 else nI 0 := by
  unfold wz
  rw [if_neg (by omega), if_neg (by omega)]
  by_cases e : f = 1
  · rw [if_pos e, if_pos (by omega)]
  · rw [if_neg e, if_neg (by omega)]; rfl
theorem wz_h {j : Nat} (hj : 159 ≤ j) : wz 25 j = nI 0 := by
  unfold wz
  rw [if_neg (by omega), if_neg (by omega), if_neg (by omega)]; rfl
theorem wz_dr : DrB (wz 25) := fun c hc => Or.inl (by rw [wz_c hc (by decide), if_neg (by decide)])
theorem wz_dw : drW (wz 25) 25 = nI 0 := low25_ext (dr_low wz_dr) low25_0 (fun c hc => by
  rw [dr_bt wz_dr hc, wz_c hc (by decide), if_neg (by decide), bt_n0]; decide)
theorem sim_st : SimS iS (wz 25) := by
  refine ⟨fun k j hk hj => ?_, ⟨0, 0, by decide, by decide, rfl, rfl, rfl, fun k e hk => absurd hk (by omega)⟩, iS_n, wz_dr⟩
  by_cases z : k = 0 ∧ j = 11
  · obtain ⟨rfl, rfl⟩ := z
    show (0 : Int32) = drW (wz 25) 25
    rw [wz_dw]; rfl
  · rw [Sv_adw hk hj z]
    rcases in_cs hk hj with ⟨rfl, h1, h2⟩ | ⟨h1, h2, h3⟩ | ⟨h1, h2, h3⟩
    · rcases inS_0 hj with rfl | rfl | rfl | rfl | rfl | rfl | rfl | rfl <;> first | rfl | exact absurd ⟨rfl, rfl⟩ z
    · have hk2 : k = 1 ∨ k = 2 ∨ k = 3 ∨ k = 4 ∨ k = 5 := by omega
      rcases hk2 with rfl | rfl | rfl | rfl | rfl
      · show (0 : Int32) = wz 25 (9 + 6 * j + 0); rw [wz_c h3 (by decide), if_neg (by decide)]; rfl
      · show (if j < 25 then (5 : Int32) else 0) = wz 25 (9 + 6 * j + 1); rw [wz_c h3 (by decide), if_pos rfl, if_pos h3]; rfl
      · show (0 : Int32) = wz 25 (9 + 6 * j + 3); rw [wz_c h3 (by decide), if_neg (by decide)]; rfl
      · show (0 : Int32) = wz 25 (9 + 6 * j + 4); rw [wz_c h3 (by decide), if_neg (by decide)]; rfl
      · show (0 : Int32) = wz 25 (9 + 6 * j + 5); rw [wz_c h3 (by decide), if_neg (by decide)]; rfl
    · have hk2 : k = 6 ∨ k = 7 ∨ k = 8 ∨ k = 9 := by omega
      rcases hk2 with rfl | rfl | rfl | rfl
      · show (0 : Int32) = wz 25 (159 + 4 * j + 0); rw [wz_h (by omega)]; rfl
      · show (0 : Int32) = wz 25 (159 + 4 * j + 1); rw [wz_h (by omega)]; rfl
      · show (0 : Int32) = wz 25 (159 + 4 * j + 2); rw [wz_h (by omega)]; rfl
      · show (0 : Int32) = wz 25 (159 + 4 * j + 3); rw [wz_h (by omega)]; rfl
theorem wb_st : WB (wz 25) 0 := by
  refine ⟨rfl, by decide, Or.inl rfl, ⟨0, by decide, rfl⟩, ⟨0, by decide, rfl⟩, fun c hc => ⟨?_, ?_, ?_⟩, fun k hk => ⟨?_, fun _ => ⟨wz_h (by omega), wz_h (by omega)⟩⟩, fun k hk => absurd hk (by omega)⟩
  · rw [wz_c hc (by decide), if_neg (by decide)]; exact ⟨0, by decide, rfl⟩
  · rw [wz_c hc (by decide), if_pos rfl]; exact ⟨5, by decide, rfl⟩
  · rw [wz_c hc (by decide), if_neg (by decide)]; exact ⟨0, by decide, rfl⟩
  · rw [wz_h (by omega)]; exact ⟨0, by decide, rfl⟩
theorem sim_start {N : Nat} {xs : Nat → Int32} {K K2 : Nat → Nat × Nat} {I I2 : Mem} {L L2 : Nat → Nat → Int64} {R R2 : Nat → Nat → Option Nat} (hU : Upb 318 (lmK (st0 N xs)) (lmI (st0 N xs)) (lmL (st0 N xs)) (lmR (st0 N xs)) K I L R) (hO : Ob0 K I R obJ obR) (hP : ∀ j, j < 12 → R 37 j = some (174 + 12 * j)) (hM : MdJ K I L R K2 I2 L2 R2) : Sim N xs (up1 K2 337 (51, 1)) (upr I2 337 (fun _ => 0)) (upr L2 337 (fun _ => 0)) (upr R2 337 (fun _ => none)) 338 := by
  obtain ⟨u1, u2⟩ := hU
  obtain ⟨o1, o2, o3⟩ := hO
  obtain ⟨⟨m1, m2⟩, ⟨b1, b2, b3⟩, w1⟩ := hM
  have hb : lmB = 1000000000 := rfl
  -- what is below 318
  have eK : ∀ a, a < 318 → K2 a = K a := fun a ha => (m2 a (Or.inl ha)).1
  have eI : ∀ a, a < 318 → I2 a = I a := fun a ha => by have := (m2 a (Or.inl ha)).2.1; rw [upr_ne (by omega)] at this; exact this
  have eR : ∀ a, a < 318 → R2 a = R a := fun a ha => (m2 a (Or.inl ha)).2.2.2
  have sK : ∀ a, lmB ≤ a → K2 a = lmK (st0 N xs) a := fun a ha => (m2 a (Or.inr (by omega))).1.trans (u2 a (by omega)).1
  have sI : ∀ a, lmB ≤ a → I2 a = lmI (st0 N xs) a := fun a ha => by
    have := (m2 a (Or.inr (by omega))).2.1
    rw [upr_ne (by omega)] at this
    exact this.trans (u2 a (by omega)).2.1
  have sL : ∀ a, lmB ≤ a → L2 a = lmL (st0 N xs) a := fun a ha => (m2 a (Or.inr (by omega))).2.2.1.trans (u2 a (by omega)).2.2.1
  have sR : ∀ a, lmB ≤ a → R2 a = lmR (st0 N xs) a := fun a ha => (m2 a (Or.inr (by omega))).2.2.2.trans (u2 a (by omega)).2.2.2
  have fI : ∀ a, a ≠ 337 → upr I2 337 (fun _ => (0 : Int32)) a = I2 a := fun a ha => upr_ne ha
  have fR : ∀ a, a ≠ 337 → upr R2 337 (fun _ => (none : Option Nat)) a = R2 a := fun a ha => upr_ne ha
  have row : ∀ b, isSt b → ∀ k, k < 12 → upr I2 337 (fun _ => (0 : Int32)) (b + k) = iS k := fun b hb2 k hk => by
    have hlt : b + k < 318 ∧ 1 ≤ b := by
      rcases hb2 with ⟨h1, h2, h3⟩ | ⟨h1, h2, h3⟩ <;> omega
    rw [fI _ (by omega), eI _ (by omega)]
    funext j
    rw [(u1 (b + k) (by omega) (by omega)).2.1 j, i0_st hb2 hk]
  have nrm : ∀ b, isSt b → Nrm (vw b (upr I2 337 (fun _ => (0 : Int32)))) := fun b hb2 => sim_nrm (sim_S sim_st (S2 := vw b (upr I2 337 (fun _ => (0 : Int32)))) (fun k hk => row b hb2 k hk))
  have z0 : ∀ j, upr I2 337 (fun _ => (0 : Int32)) 0 j = obJ j := fun j => by rw [fI 0 (by decide), eI 0 (by decide)]; exact o2 j
  have z3 : ∀ j, upr I2 337 (fun _ => (0 : Int32)) 318 j = omJ j := fun j => by rw [fI 318 (by decide)]; exact b2 j
  have z9 : upr I2 337 (fun _ => (0 : Int32)) 319 = wz 25 := by rw [fI 319 (by decide)]; exact w1
  refine ⟨⟨⟨fun a k hk => ?_, fun a j x hx => ?_, by decide⟩, ⟨fun k hk => ?_, fun k j hk => ?_⟩, fun i hi => ?_, ?_, ⟨fun j => ?_, ?_⟩, by decide⟩, ⟨none, none, 0, ?_, ?_, ?_, trivial, trivial, ?_, trivial⟩, Or.inl ⟨z0 3, z3 6⟩, ⟨0, fun _ => 0, z0 7, z3 9, by decide, fun j hj => ?_, fun j hj => (show (0 : Nat) < 256 by decide), fun j hj => ⟨?_, (show (0 : Nat) < 256 by decide)⟩⟩, ⟨fun i => 174 + 12 * i, 0, fun _ => iS, ⟨fun i hi => ⟨?_, ⟨(show 174 ≤ 174 + 12 * i by omega), (show (174 + 12 * i - 174) % 12 = 0 by omega), (show 174 + 12 * i < 318 by omega)⟩, nrm _ (Or.inr ⟨(show 174 ≤ 174 + 12 * i by omega), (show (174 + 12 * i - 174) % 12 = 0 by omega), (show 174 + 12 * i < 318 by omega)⟩)⟩, fun i j hi hj e => (by have e2 : 174 + 12 * i = 174 + 12 * j := e; omega), by decide, z0 5, fun i hi => absurd hi (by omega)⟩, z3 7, fun i hi => absurd hi (by omega)⟩, (z0 8).trans (z3 14).symm, nrm 13 (by unfold isSt; omega), nrm 25 (by unfold isSt; omega)⟩
  · have h338 := k0_338 hk
    by_cases q7 : a = 337
    · rw [q7, up1_hit]; rw [q7] at hk; exact Option.some.inj hk
    · rw [up1_ne q7]
      by_cases q0 : a = 0
      · rw [q0] at hk ⊢; rw [eK 0 (by decide), o1]; exact Option.some.inj hk
      · by_cases q1 : a < 318
        · rw [eK a q1]
          have := (u1 a (by omega) q1).1
          rw [hk] at this
          exact Option.some.inj this
        · by_cases q2 : a = 318
          · rw [q2] at hk ⊢; rw [b1]; exact Option.some.inj hk
          · have := (m1 a (by omega) (by omega)).1
            rw [hk] at this
            exact Option.some.inj this
  · have h338 := r0_338 hx
    by_cases q8 : 318 < a
    · exact (r0_hi q8 hx).elim
    · rw [fR a (by omega)]
      by_cases q2 : a = 318
      · rw [q2] at hx ⊢; rw [b3]; exact r0_318 hx
      · rw [eR a (by omega)]
        by_cases q0 : a = 0
        · rw [q0] at hx ⊢; rw [o3]; exact r0_0 hx
        · have q37 : a ≠ 37 := fun q => by subst q; cases hx
          rw [(u1 a (by omega) (by omega)).2.2 q37 j]; exact hx
  · rw [up1_ne (by omega), sK _ (by omega)]
    show (if lmB + (1000 + k) < lmB then (0, 0) else if lmB + (1000 + k) - lmB < 114 then _ else if 1000 ≤ lmB + (1000 + k) - lmB ∧ lmB + (1000 + k) - lmB < 1003 then (51, 6) else _) = _
    rw [if_neg (by omega), if_neg (by omega), if_pos (by omega)]
  · rw [upr_ne (by omega), sL _ (by omega)]
    show (if lmB + (1000 + k) < lmB then 0 else if 1000 ≤ lmB + (1000 + k) - lmB ∧ lmB + (1000 + k) - lmB < 1003 then Int64.ofNat ((rVl (lmB + (1000 + k) - lmB)).getD j 0) else 0) = _
    rw [if_neg (by omega), if_pos (by omega), show lmB + (1000 + k) - lmB = 1000 + k by omega]
  · have kk1 : lmK (st0 N xs) (lmB + 2 * i) = (13, 0) := by
      show (if lmB + 2 * i < lmB then (0, 0) else if lmB + 2 * i - lmB < 114 then (if (lmB + 2 * i - lmB) % 2 = 0 then (13, 0) else _) else _) = _
      rw [if_neg (by omega), if_pos (by omega), if_pos (by omega)]
    have kk2 : lmK (st0 N xs) (lmB + (2 * i + 1)) = (52, (sB i).length) := by
      show (if lmB + (2 * i + 1) < lmB then (0, 0) else if lmB + (2 * i + 1) - lmB < 114 then (if (lmB + (2 * i + 1) - lmB) % 2 = 0 then (13, 0) else (52, (sB ((lmB + (2 * i + 1) - lmB) / 2)).length)) else _) = _
      rw [if_neg (by omega), if_pos (by omega), if_neg (by omega), show (lmB + (2 * i + 1) - lmB) / 2 = i by omega]
    refine ⟨by rw [up1_ne (by omega), sK _ (by omega)]; exact kk1, by rw [up1_ne (by omega), sK _ (by omega)]; exact kk2, ?_, fun j => ?_, fun j => ?_⟩
    · rw [fR _ (by omega), sR _ (by omega)]
      show (if lmB + 2 * i < lmB then none else if lmB + 2 * i - lmB < 114 ∧ (lmB + 2 * i - lmB) % 2 = 0 ∧ 0 = 0 then some (lmB + 2 * i + 1) else none) = _
      rw [if_neg (by omega), if_pos (by omega)]
      rfl
    · rw [fI _ (by omega), sI _ (by omega)]
      show (if lmB + 2 * i < lmB then 0 else if lmB + 2 * i - lmB < 114 then (if (lmB + 2 * i - lmB) % 2 = 0 then 0 else _) else _) = (0 : Int32)
      rw [if_neg (by omega), if_pos (by omega), if_pos (by omega)]
    · rw [fI _ (by omega), sI _ (by omega)]
      show (if lmB + (2 * i + 1) < lmB then 0 else if lmB + (2 * i + 1) - lmB < 114 then (if (lmB + (2 * i + 1) - lmB) % 2 = 0 then 0 else Int32.ofNat ((sB ((lmB + (2 * i + 1) - lmB) / 2)).getD j 0)) else _) = _
      rw [if_neg (by omega), if_pos (by omega), if_neg (by omega), show (lmB + (2 * i + 1) - lmB) / 2 = i by omega]
  · rw [up1_ne (show lmScr ≠ 337 by decide), sK lmScr (Nat.le_add_right _ _)]
    rfl
  · rw [fI lmScr (by decide), sI lmScr (Nat.le_add_right _ _)]
    rfl
  · rw [fI 44 (by decide), eI 44 (by decide), (u1 44 (by decide) (by decide)).2.1 0]; rfl
  · rw [z9]; exact sim_S sim_st (fun k hk => row 1 (by unfold isSt; omega) k hk)
  · rw [z9]; exact wb_st
  · show upr R2 337 (fun _ => none) 1 18 = none
    rw [fR 1 (by decide), eR 1 (by decide), (u1 1 (by decide) (by decide)).2.2 (by decide) 18]; rfl
  · rw [z9]; show ¬ wz 25 2 = nI 1; decide
  · rw [fI 38 (by decide), eI 38 (by decide), (u1 38 (by decide) (by decide)).2.1 j]; rfl
  · rw [fI 324 (by decide)]
    have := (m1 324 (by decide) (by decide)).2.1 j
    rw [upr_ne (by decide)] at this
    rw [this]; rfl
  · rw [fR 37 (by decide), eR 37 (by decide)]; exact hP i hi
/-- the law answers that it holds -/
theorem law_true (hPl : PlT) (hPa : PaT) : LawTrue := by
  intro N xs hN
  have h : Ok 831 369 [.ref lmScr] (lmK (st0 N xs), lmI (st0 N xs), lmL (st0 N xs), lmR (st0 N xs), 0, 0) LwQ := by
    refine Ok.enter (F := F_369) (ls := [.ref lmScr, lDead, lDead, lDead, lDead, lDead, lDead]) rfl rfl ?_
    refine wp_nwN 1 (pc' := 3) rfl rfl (by decide) (by decide) rfl rfl ?_
    refine wp_dup (pc' := 4) rfl rfl rfl ?_
    refine wp_callI1 (pc' := 7) rfl rfl rfl rfl rfl (show (up1 (lmK (st0 N xs)) 0 (1, 0) 0).1 = 1 by rw [up1_hit]) rfl rfl ?_
    refine c_tbI (d := 826) (by decide) (fun K I L R hU hO hP => ?_)
    refine Cont.u ?_
    refine wp_astore1 (pc' := 8) rfl rfl rfl ?_
    refine wp_nwN 319 (pc' := 11) rfl rfl (by decide) (by decide) rfl rfl ?_
    refine wp_dup (pc' := 12) rfl rfl rfl ?_
    refine wp_callI1 (pc' := 15) rfl rfl rfl rfl rfl (show (up1 K 318 (12, 0) 318).1 = 12 by rw [up1_hit]) rfl rfl ?_
    refine m_mdI (d := 828) (by decide) (fun K2 I2 L2 R2 hM => ?_)
    refine Cont.u ?_
    refine wp_astore2 (pc' := 16) rfl rfl rfl ?_
    refine wp_iconst (v := nI 1) (pc' := 17) rfl rfl rfl ?_
    refine wp_nwA (w := 1) 338 (pc' := 19) rfl rfl (by decide) (by decide) (by decide) rfl rfl ?_
    refine wp_astore3 (pc' := 20) rfl rfl rfl ?_
    refine wp_iconst (v := nI 0) (pc' := 21) rfl rfl rfl ?_
    refine wp_istore4 (pc' := 23) rfl rfl rfl ?_
    exact lw_loop (d := 790) hPl hPa hN 512 0 _ _ _ _ _ _ lDead lDead rfl rfl (sim_start hU hO hP hM) (by omega) (by omega) (by decide) (by decide)
  obtain ⟨F, o, t, h1, h2⟩ := h
  refine ⟨F, t, ?_⟩
  have h3 : s_callB mTab F 831 369 [.ref lmScr] (st0 N xs) = some (o, t) := h1
  rw [h3, show o = _ from h2]
  rfl
