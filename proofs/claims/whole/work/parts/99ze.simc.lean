/-! THE RELATION: dig and block -/
theorem up2_off {α : Type} {f : Nat → Nat → α} {a k i j : Nat} {v : α} (h : ¬ (i = a ∧ j = k)) : up2 f a k v i j = f i j := by unfold up2; rw [if_neg h]
theorem inS_0 {j : Nat} (h : inS 0 j = true) : j = 10 ∨ j = 11 ∨ j = 12 ∨ j = 13 ∨ j = 14 ∨ j = 15 ∨ j = 16 ∨ j = 17 := by
  unfold inS at h
  rw [if_pos rfl] at h
  have := of_decide_eq_true h
  omega
theorem sv_dr {w : Nat → Int32} {c k j : Nat} {v : Int32} (hc : c < 25) (hk : k < 10) (hj : inS k j = true) (h : ¬ (k = 0 ∧ j = 11)) : Sv (up1 w (9 + 6 * c + 2) v) k j = Sv w k j := by
  have hk2 : k = 0 ∨ k = 1 ∨ k = 2 ∨ k = 3 ∨ k = 4 ∨ k = 5 ∨ k = 6 ∨ k = 7 ∨ k = 8 ∨ k = 9 := by omega
  rcases hk2 with rfl | rfl | rfl | rfl | rfl | rfl | rfl | rfl | rfl | rfl
  · rcases inS_0 hj with rfl | rfl | rfl | rfl | rfl | rfl | rfl | rfl
    · exact up1_ne (by omega)
    · exact absurd ⟨rfl, rfl⟩ h
    · exact up1_ne (by omega)
    · exact up1_ne (by omega)
    · exact up1_ne (by omega)
    · exact up1_ne (by omega)
    · exact up1_ne (by omega)
    · exact up1_ne (by omega)
  all_goals
    by_cases q : j < 25
    · by_cases q6 : j < 6
      · first | (rw [Sv_1 q, Sv_1 q]; exact up1_ne (by omega)) | (rw [Sv_2 q, Sv_2 q]; exact up1_ne (by omega)) | (rw [Sv_3 q, Sv_3 q]; exact up1_ne (by omega)) | (rw [Sv_4 q, Sv_4 q]; exact up1_ne (by omega)) | (rw [Sv_5 q, Sv_5 q]; exact up1_ne (by omega)) | (rw [Sv_6 q6, Sv_6 q6]; exact up1_ne (by omega)) | (rw [Sv_7 q6, Sv_7 q6]; exact up1_ne (by omega)) | (rw [Sv_8 q6, Sv_8 q6]; exact up1_ne (by omega)) | (rw [Sv_9 q6, Sv_9 q6]; exact up1_ne (by omega))
      · first | (rw [Sv_1 q, Sv_1 q]; exact up1_ne (by omega)) | (rw [Sv_2 q, Sv_2 q]; exact up1_ne (by omega)) | (rw [Sv_3 q, Sv_3 q]; exact up1_ne (by omega)) | (rw [Sv_4 q, Sv_4 q]; exact up1_ne (by omega)) | (rw [Sv_5 q, Sv_5 q]; exact up1_ne (by omega)) | exact (if_neg q6).trans (if_neg q6).symm
    · first | exact (if_neg q).trans (if_neg q).symm | exact (if_neg (show ¬ j < 6 by omega)).trans (if_neg (show ¬ j < 6 by omega)).symm
theorem sim_dr {S : Mem} {w : Nat → Int32} {c : Nat} {v x : Int32} (h : SimS S w) (hc : c < 25) (hv : v = nI 0 ∨ v = nI 1) (hx : x = drW (up1 w (9 + 6 * c + 2) v) 25) : SimS (up2 S 0 11 x) (up1 w (9 + 6 * c + 2) v) := by
  obtain ⟨h1, ⟨q, g, g1, g2, g3, g4, g5, g6⟩, h3, h4⟩ := h
  refine ⟨fun k j hk hj => ?_, ⟨q, g, g1, g2, ?_, ?_, ?_, fun k e hk he => ?_⟩, fun k j hkj => ?_, drB_put h4 hv⟩
  · by_cases e : k = 0 ∧ j = 11
    · obtain ⟨rfl, rfl⟩ := e
      rw [up2_hit, hx]; rfl
    · rw [sv_dr hc hk hj e, up2_off e]; exact h1 k j hk hj
  · rw [up2_row (by decide)]; exact g3
  · rw [up2_row (by decide)]; exact g4
  · rw [up1_ne (by omega)]; exact g5
  · rw [up1_ne (by omega), up2_row (by decide)]; exact g6 k e hk he
  · rw [up2_off (fun e => by rw [e.1, e.2] at hkj; exact absurd hkj (by decide))]; exact h3 k j hkj
