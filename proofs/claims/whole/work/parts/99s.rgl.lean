/-! WRAPPERS of the law -/
def WrE (Q : Lo → Lm → Prop) (a : Nat) (t : Lm) : List Nat → Nat → Prop
  | [], _ => False
  | c :: r, k => ((lmK t a).1 = c ∧ Q (.inl (some (.int (nI k)))) t) ∨ WrE Q a t r (k + 1)
/-- what a wrapper makes of an answer: an int -/
def WrQ (cs : List Nat) (Q : Lo → Lm → Prop) (o : Lo) (t : Lm) : Prop := match o with
  | .inl (some (.int v)) => lmK t 337 = (51, 1) ∧ 337 < lmN t ∧ Q (.inl (some (.int (nI 0)))) (lmK t, lmI t, up2 (lmL t) 337 0 v.toInt64, lmR t, lmN t, lmS t)
  | .inr a => WrE Q a t cs 1
  | _ => False
/-- a truth value -/
def WrZ (cs : List Nat) (Q : Lo → Lm → Prop) (o : Lo) (t : Lm) : Prop := match o with
  | .inl (some (.int v)) => lmK t 337 = (51, 1) ∧ 337 < lmN t ∧ Q (.inl (some (.int (nI 0)))) (lmK t, lmI t, up2 (lmL t) 337 0 (if v = nI 0 then 0 else 1), lmR t, lmN t, lmS t)
  | .inr a => WrE Q a t cs 1
  | _ => False
theorem cont_e {d : Nat} {F : Lf} {pc pc' h a : Nat} {ls r : List Value} {Q : Lo → Lm → Prop} {t : Lm} (hf : s_find pc (lmK t a).1 F.2.2.2.1 = some h) (w : WP d F h ls [.ref a] t Q) : Cont d F pc pc' ls r Q (.inr a) t := by
  show (match s_find pc (lmK t a).1 F.2.2.2.1 with
    | some h => WP d F h ls [.ref a] t Q
    | none => Q (.inr a) t)
  rw [hf]
  exact w
theorem wr_q {cs : List Nat} {Q : Lo → Lm → Prop} {o : Lo} {t : Lm} {C : Lo → Lm → Prop} (h : WrQ cs Q o t) (he : ∀ a, WrE Q a t cs 1 → C (.inr a) t) (hv : ∀ v, lmK t 337 = (51, 1) → 337 < lmN t → Q (.inl (some (.int (nI 0)))) (lmK t, lmI t, up2 (lmL t) 337 0 v.toInt64, lmR t, lmN t, lmS t) → C (.inl (some (.int v))) t) : C o t := by
  rcases o with (_ | v) | a
  · exact h.elim
  · cases v with
    | int v => exact hv v h.1 h.2.1 h.2.2
    | _ => exact h.elim
  · exact he a h
theorem wr_z {cs : List Nat} {Q : Lo → Lm → Prop} {o : Lo} {t : Lm} {C : Lo → Lm → Prop} (h : WrZ cs Q o t) (he : ∀ a, WrE Q a t cs 1 → C (.inr a) t) (hv : ∀ v, lmK t 337 = (51, 1) → 337 < lmN t → Q (.inl (some (.int (nI 0)))) (lmK t, lmI t, up2 (lmL t) 337 0 (if v = nI 0 then 0 else 1), lmR t, lmN t, lmS t) → C (.inl (some (.int v))) t) : C o t := by
  rcases o with (_ | v) | a
  · exact h.elim
  · cases v with
    | int v => exact hv v h.1 h.2.1 h.2.2
    | _ => exact h.elim
  · exact he a h

theorem w_bog {d : Nat} {K : Nat → Nat × Nat} {I : Nat → Nat → Int32} {L : Nat → Nat → Int64} {R : Nat → Nat → Option Nat} {n s : Nat} {Q : Lo → Lm → Prop}  (hk : (K 0).1 = 1) (hC : Ok (d + 1) 65 [.ref 0] (K, I, L, R, n, s) (WrQ [14, 15] Q)) : Ok (d + 2) 64 [.ref 0, .ref 337] (K, I, L, R, n, s) Q := by
  refine Ok.enter (F := F_64) (ls := [.ref 0, .ref 337, lDead]) rfl rfl ?_
  refine wp_aload1 (pc' := 1) rfl rfl ?_
  refine wp_iconst (v := nI 0) (pc' := 2) rfl rfl rfl ?_
  refine wp_aload0 (pc' := 3) rfl rfl ?_
  refine wp_callV1 (pc' := 6) rfl rfl rfl rfl rfl (by first | exact hk | exact hK) rfl rfl ?_
  refine Ok.mono (Nat.le_refl _) hC (fun o t2 hq => ?_)
  obtain ⟨K2, I2, L2, R2, n2, s2⟩ := t2
  refine wr_q (C := Cont _ _ _ _ _ _ _) hq (fun a hw => ?_) (fun v hK hn hv => ?_)
  · rcases hw with ⟨he, hw⟩ | ⟨he, hw⟩ | hw
    · refine cont_e (h := 11) (by rw [show (lmK (K2, I2, L2, R2, n2, s2) a).1 = 14 from he]; rfl) ?_
      refine wp_astore2 (pc' := 12) rfl rfl rfl ?_
      refine wp_iconst (v := nI 1) (pc' := 13) rfl rfl rfl ?_
      refine wp_iret rfl rfl rfl ?_
      exact hw
    · refine cont_e (h := 14) (by rw [show (lmK (K2, I2, L2, R2, n2, s2) a).1 = 15 from he]; rfl) ?_
      refine wp_astore2 (pc' := 15) rfl rfl rfl ?_
      refine wp_iconst (v := nI 2) (pc' := 16) rfl rfl rfl ?_
      refine wp_iret rfl rfl rfl ?_
      exact hw
    · exact hw.elim
  refine Cont.v ?_
  refine wp_i2l (pc' := 7) rfl rfl ?_
  refine wp_last _ (pc' := 8) rfl (by first | exact hk | exact hK) (by first | exact hn | omega) (by with_reducible rfl) (by first | exact hn | omega) (by first | decide | assumption | omega) rfl ?_
  refine wp_goto rfl ?_
  refine wp_iconst (v := nI 0) (pc' := 18) rfl rfl rfl ?_
  refine wp_iret rfl rfl rfl ?_
  first | exact hv | (rw [if_pos h6] at hv; exact hv) | (rw [if_neg h6] at hv; exact hv)
theorem w_law {d : Nat} {K : Nat → Nat × Nat} {I : Nat → Nat → Int32} {L : Nat → Nat → Int64} {R : Nat → Nat → Option Nat} {n s : Nat} {Q : Lo → Lm → Prop}  (hk : (K 0).1 = 1) (hC : Ok (d + 1) 96 [.ref 0] (K, I, L, R, n, s) (WrQ [14] Q)) : Ok (d + 2) 95 [.ref 0, .ref 337] (K, I, L, R, n, s) Q := by
  refine Ok.enter (F := F_95) (ls := [.ref 0, .ref 337, lDead]) rfl rfl ?_
  refine wp_aload1 (pc' := 1) rfl rfl ?_
  refine wp_iconst (v := nI 0) (pc' := 2) rfl rfl rfl ?_
  refine wp_aload0 (pc' := 3) rfl rfl ?_
  refine wp_callV1 (pc' := 6) rfl rfl rfl rfl rfl (by first | exact hk | exact hK) rfl rfl ?_
  refine Ok.mono (Nat.le_refl _) hC (fun o t2 hq => ?_)
  obtain ⟨K2, I2, L2, R2, n2, s2⟩ := t2
  refine wr_q (C := Cont _ _ _ _ _ _ _) hq (fun a hw => ?_) (fun v hK hn hv => ?_)
  · rcases hw with ⟨he, hw⟩ | hw
    · refine cont_e (h := 11) (by rw [show (lmK (K2, I2, L2, R2, n2, s2) a).1 = 14 from he]; rfl) ?_
      refine wp_astore2 (pc' := 12) rfl rfl rfl ?_
      refine wp_iconst (v := nI 1) (pc' := 13) rfl rfl rfl ?_
      refine wp_iret rfl rfl rfl ?_
      exact hw
    · exact hw.elim
  refine Cont.v ?_
  refine wp_i2l (pc' := 7) rfl rfl ?_
  refine wp_last _ (pc' := 8) rfl (by first | exact hk | exact hK) (by first | exact hn | omega) (by with_reducible rfl) (by first | exact hn | omega) (by first | decide | assumption | omega) rfl ?_
  refine wp_goto rfl ?_
  refine wp_iconst (v := nI 0) (pc' := 15) rfl rfl rfl ?_
  refine wp_iret rfl rfl rfl ?_
  first | exact hv | (rw [if_pos h6] at hv; exact hv) | (rw [if_neg h6] at hv; exact hv)
theorem w_cell {d : Nat} {K : Nat → Nat × Nat} {I : Nat → Nat → Int32} {L : Nat → Nat → Int64} {R : Nat → Nat → Option Nat} {n s : Nat} {Q : Lo → Lm → Prop} {x1 x2 : Int32} (hk : (K 0).1 = 1) (hC : Ok (d + 1) 107 [.ref 0, .int x1, .int x2] (K, I, L, R, n, s) (WrQ [16, 17] Q)) : Ok (d + 2) 106 [.ref 0, .int x1, .int x2, .ref 337] (K, I, L, R, n, s) Q := by
  refine Ok.enter (F := F_106) (ls := [.ref 0, .int x1, .int x2, .ref 337, lDead]) rfl rfl ?_
  refine wp_aload3 (pc' := 1) rfl rfl ?_
  refine wp_iconst (v := nI 0) (pc' := 2) rfl rfl rfl ?_
  refine wp_aload0 (pc' := 3) rfl rfl ?_
  refine wp_iload1 (pc' := 4) rfl rfl ?_
  refine wp_iload2 (pc' := 5) rfl rfl ?_
  refine wp_callV3 (pc' := 8) rfl rfl rfl rfl rfl (by first | exact hk | exact hK) rfl rfl ?_
  refine Ok.mono (Nat.le_refl _) hC (fun o t2 hq => ?_)
  obtain ⟨K2, I2, L2, R2, n2, s2⟩ := t2
  refine wr_q (C := Cont _ _ _ _ _ _ _) hq (fun a hw => ?_) (fun v hK hn hv => ?_)
  · rcases hw with ⟨he, hw⟩ | ⟨he, hw⟩ | hw
    · refine cont_e (h := 13) (by rw [show (lmK (K2, I2, L2, R2, n2, s2) a).1 = 16 from he]; rfl) ?_
      refine wp_astore4 (pc' := 15) rfl rfl rfl ?_
      refine wp_iconst (v := nI 1) (pc' := 16) rfl rfl rfl ?_
      refine wp_iret rfl rfl rfl ?_
      exact hw
    · refine cont_e (h := 17) (by rw [show (lmK (K2, I2, L2, R2, n2, s2) a).1 = 17 from he]; rfl) ?_
      refine wp_astore4 (pc' := 19) rfl rfl rfl ?_
      refine wp_iconst (v := nI 2) (pc' := 20) rfl rfl rfl ?_
      refine wp_iret rfl rfl rfl ?_
      exact hw
    · exact hw.elim
  refine Cont.v ?_
  refine wp_i2l (pc' := 9) rfl rfl ?_
  refine wp_last _ (pc' := 10) rfl (by first | exact hk | exact hK) (by first | exact hn | omega) (by with_reducible rfl) (by first | exact hn | omega) (by first | decide | assumption | omega) rfl ?_
  refine wp_goto rfl ?_
  refine wp_iconst (v := nI 0) (pc' := 22) rfl rfl rfl ?_
  refine wp_iret rfl rfl rfl ?_
  first | exact hv | (rw [if_pos h8] at hv; exact hv) | (rw [if_neg h8] at hv; exact hv)
theorem w_hearth {d : Nat} {K : Nat → Nat × Nat} {I : Nat → Nat → Int32} {L : Nat → Nat → Int64} {R : Nat → Nat → Option Nat} {n s : Nat} {Q : Lo → Lm → Prop} {x1 x2 : Int32} (hk : (K 0).1 = 1) (hC : Ok (d + 1) 118 [.ref 0, .int x1, .int x2] (K, I, L, R, n, s) (WrQ [16, 17] Q)) : Ok (d + 2) 117 [.ref 0, .int x1, .int x2, .ref 337] (K, I, L, R, n, s) Q := by
  refine Ok.enter (F := F_117) (ls := [.ref 0, .int x1, .int x2, .ref 337, lDead]) rfl rfl ?_
  refine wp_aload3 (pc' := 1) rfl rfl ?_
  refine wp_iconst (v := nI 0) (pc' := 2) rfl rfl rfl ?_
  refine wp_aload0 (pc' := 3) rfl rfl ?_
  refine wp_iload1 (pc' := 4) rfl rfl ?_
  refine wp_iload2 (pc' := 5) rfl rfl ?_
  refine wp_callV3 (pc' := 8) rfl rfl rfl rfl rfl (by first | exact hk | exact hK) rfl rfl ?_
  refine Ok.mono (Nat.le_refl _) hC (fun o t2 hq => ?_)
  obtain ⟨K2, I2, L2, R2, n2, s2⟩ := t2
  refine wr_q (C := Cont _ _ _ _ _ _ _) hq (fun a hw => ?_) (fun v hK hn hv => ?_)
  · rcases hw with ⟨he, hw⟩ | ⟨he, hw⟩ | hw
    · refine cont_e (h := 13) (by rw [show (lmK (K2, I2, L2, R2, n2, s2) a).1 = 16 from he]; rfl) ?_
      refine wp_astore4 (pc' := 15) rfl rfl rfl ?_
      refine wp_iconst (v := nI 1) (pc' := 16) rfl rfl rfl ?_
      refine wp_iret rfl rfl rfl ?_
      exact hw
    · refine cont_e (h := 17) (by rw [show (lmK (K2, I2, L2, R2, n2, s2) a).1 = 17 from he]; rfl) ?_
      refine wp_astore4 (pc' := 19) rfl rfl rfl ?_
      refine wp_iconst (v := nI 2) (pc' := 20) rfl rfl rfl ?_
      refine wp_iret rfl rfl rfl ?_
      exact hw
    · exact hw.elim
  refine Cont.v ?_
  refine wp_i2l (pc' := 9) rfl rfl ?_
  refine wp_last _ (pc' := 10) rfl (by first | exact hk | exact hK) (by first | exact hn | omega) (by with_reducible rfl) (by first | exact hn | omega) (by first | decide | assumption | omega) rfl ?_
  refine wp_goto rfl ?_
  refine wp_iconst (v := nI 0) (pc' := 22) rfl rfl rfl ?_
  refine wp_iret rfl rfl rfl ?_
  first | exact hv | (rw [if_pos h8] at hv; exact hv) | (rw [if_neg h8] at hv; exact hv)
theorem w_days {d : Nat} {K : Nat → Nat × Nat} {I : Nat → Nat → Int32} {L : Nat → Nat → Int64} {R : Nat → Nat → Option Nat} {n s : Nat} {Q : Lo → Lm → Prop} {x1 : Int32} (hk : (K 0).1 = 1) (hC : Ok (d + 1) 122 [.ref 0, .int x1] (K, I, L, R, n, s) (WrQ [14] Q)) : Ok (d + 2) 121 [.ref 0, .int x1, .ref 337] (K, I, L, R, n, s) Q := by
  refine Ok.enter (F := F_121) (ls := [.ref 0, .int x1, .ref 337, lDead]) rfl rfl ?_
  refine wp_aload2 (pc' := 1) rfl rfl ?_
  refine wp_iconst (v := nI 0) (pc' := 2) rfl rfl rfl ?_
  refine wp_aload0 (pc' := 3) rfl rfl ?_
  refine wp_iload1 (pc' := 4) rfl rfl ?_
  refine wp_callV2 (pc' := 7) rfl rfl rfl rfl rfl (by first | exact hk | exact hK) rfl rfl ?_
  refine Ok.mono (Nat.le_refl _) hC (fun o t2 hq => ?_)
  obtain ⟨K2, I2, L2, R2, n2, s2⟩ := t2
  refine wr_q (C := Cont _ _ _ _ _ _ _) hq (fun a hw => ?_) (fun v hK hn hv => ?_)
  · rcases hw with ⟨he, hw⟩ | hw
    · refine cont_e (h := 12) (by rw [show (lmK (K2, I2, L2, R2, n2, s2) a).1 = 14 from he]; rfl) ?_
      refine wp_astore3 (pc' := 13) rfl rfl rfl ?_
      refine wp_iconst (v := nI 1) (pc' := 14) rfl rfl rfl ?_
      refine wp_iret rfl rfl rfl ?_
      exact hw
    · exact hw.elim
  refine Cont.v ?_
  refine wp_i2l (pc' := 8) rfl rfl ?_
  refine wp_last _ (pc' := 9) rfl (by first | exact hk | exact hK) (by first | exact hn | omega) (by with_reducible rfl) (by first | exact hn | omega) (by first | decide | assumption | omega) rfl ?_
  refine wp_goto rfl ?_
  refine wp_iconst (v := nI 0) (pc' := 16) rfl rfl rfl ?_
  refine wp_iret rfl rfl rfl ?_
  first | exact hv | (rw [if_pos h7] at hv; exact hv) | (rw [if_neg h7] at hv; exact hv)
theorem w_cut {d : Nat} {K : Nat → Nat × Nat} {I : Nat → Nat → Int32} {L : Nat → Nat → Int64} {R : Nat → Nat → Option Nat} {n s : Nat} {Q : Lo → Lm → Prop} {x1 x2 : Int32} (hk : (K 0).1 = 1) (hC : Ok (d + 1) 128 [.ref 0, .int x1, .int x2] (K, I, L, R, n, s) (WrQ [16, 18] Q)) : Ok (d + 2) 127 [.ref 0, .int x1, .int x2, .ref 337] (K, I, L, R, n, s) Q := by
  refine Ok.enter (F := F_127) (ls := [.ref 0, .int x1, .int x2, .ref 337, lDead]) rfl rfl ?_
  refine wp_aload3 (pc' := 1) rfl rfl ?_
  refine wp_iconst (v := nI 0) (pc' := 2) rfl rfl rfl ?_
  refine wp_aload0 (pc' := 3) rfl rfl ?_
  refine wp_iload1 (pc' := 4) rfl rfl ?_
  refine wp_iload2 (pc' := 5) rfl rfl ?_
  refine wp_callV3 (pc' := 8) rfl rfl rfl rfl rfl (by first | exact hk | exact hK) rfl rfl ?_
  refine Ok.mono (Nat.le_refl _) hC (fun o t2 hq => ?_)
  obtain ⟨K2, I2, L2, R2, n2, s2⟩ := t2
  refine wr_q (C := Cont _ _ _ _ _ _ _) hq (fun a hw => ?_) (fun v hK hn hv => ?_)
  · rcases hw with ⟨he, hw⟩ | ⟨he, hw⟩ | hw
    · refine cont_e (h := 13) (by rw [show (lmK (K2, I2, L2, R2, n2, s2) a).1 = 16 from he]; rfl) ?_
      refine wp_astore4 (pc' := 15) rfl rfl rfl ?_
      refine wp_iconst (v := nI 1) (pc' := 16) rfl rfl rfl ?_
      refine wp_iret rfl rfl rfl ?_
      exact hw
    · refine cont_e (h := 17) (by rw [show (lmK (K2, I2, L2, R2, n2, s2) a).1 = 18 from he]; rfl) ?_
      refine wp_astore4 (pc' := 19) rfl rfl rfl ?_
      refine wp_iconst (v := nI 2) (pc' := 20) rfl rfl rfl ?_
      refine wp_iret rfl rfl rfl ?_
      exact hw
    · exact hw.elim
  refine Cont.v ?_
  refine wp_i2l (pc' := 9) rfl rfl ?_
  refine wp_last _ (pc' := 10) rfl (by first | exact hk | exact hK) (by first | exact hn | omega) (by with_reducible rfl) (by first | exact hn | omega) (by first | decide | assumption | omega) rfl ?_
  refine wp_goto rfl ?_
  refine wp_iconst (v := nI 0) (pc' := 22) rfl rfl rfl ?_
  refine wp_iret rfl rfl rfl ?_
  first | exact hv | (rw [if_pos h8] at hv; exact hv) | (rw [if_neg h8] at hv; exact hv)
theorem w_foot {d : Nat} {K : Nat → Nat × Nat} {I : Nat → Nat → Int32} {L : Nat → Nat → Int64} {R : Nat → Nat → Option Nat} {n s : Nat} {Q : Lo → Lm → Prop} {x1 : Int32} (hk : (K 0).1 = 1) (hC : Ok (d + 1) 130 [.ref 0, .int x1] (K, I, L, R, n, s) (WrQ [16, 18] Q)) : Ok (d + 2) 129 [.ref 0, .int x1, .ref 337] (K, I, L, R, n, s) Q := by
  refine Ok.enter (F := F_129) (ls := [.ref 0, .int x1, .ref 337, lDead]) rfl rfl ?_
  refine wp_aload2 (pc' := 1) rfl rfl ?_
  refine wp_iconst (v := nI 0) (pc' := 2) rfl rfl rfl ?_
  refine wp_aload0 (pc' := 3) rfl rfl ?_
  refine wp_iload1 (pc' := 4) rfl rfl ?_
  refine wp_callV2 (pc' := 7) rfl rfl rfl rfl rfl (by first | exact hk | exact hK) rfl rfl ?_
  refine Ok.mono (Nat.le_refl _) hC (fun o t2 hq => ?_)
  obtain ⟨K2, I2, L2, R2, n2, s2⟩ := t2
  refine wr_q (C := Cont _ _ _ _ _ _ _) hq (fun a hw => ?_) (fun v hK hn hv => ?_)
  · rcases hw with ⟨he, hw⟩ | ⟨he, hw⟩ | hw
    · refine cont_e (h := 12) (by rw [show (lmK (K2, I2, L2, R2, n2, s2) a).1 = 16 from he]; rfl) ?_
      refine wp_astore3 (pc' := 13) rfl rfl rfl ?_
      refine wp_iconst (v := nI 1) (pc' := 14) rfl rfl rfl ?_
      refine wp_iret rfl rfl rfl ?_
      exact hw
    · refine cont_e (h := 15) (by rw [show (lmK (K2, I2, L2, R2, n2, s2) a).1 = 18 from he]; rfl) ?_
      refine wp_astore3 (pc' := 16) rfl rfl rfl ?_
      refine wp_iconst (v := nI 2) (pc' := 17) rfl rfl rfl ?_
      refine wp_iret rfl rfl rfl ?_
      exact hw
    · exact hw.elim
  refine Cont.v ?_
  refine wp_i2l (pc' := 8) rfl rfl ?_
  refine wp_last _ (pc' := 9) rfl (by first | exact hk | exact hK) (by first | exact hn | omega) (by with_reducible rfl) (by first | exact hn | omega) (by first | decide | assumption | omega) rfl ?_
  refine wp_goto rfl ?_
  refine wp_iconst (v := nI 0) (pc' := 19) rfl rfl rfl ?_
  refine wp_iret rfl rfl rfl ?_
  first | exact hv | (rw [if_pos h7] at hv; exact hv) | (rw [if_neg h7] at hv; exact hv)
theorem w_cart {d : Nat} {K : Nat → Nat × Nat} {I : Nat → Nat → Int32} {L : Nat → Nat → Int64} {R : Nat → Nat → Option Nat} {n s : Nat} {Q : Lo → Lm → Prop} {x1 x2 : Int32} (hk : (K 0).1 = 1) (hC : Ok (d + 1) 132 [.ref 0, .int x1, .int x2] (K, I, L, R, n, s) (WrQ [16, 18] Q)) : Ok (d + 2) 131 [.ref 0, .int x1, .int x2, .ref 337] (K, I, L, R, n, s) Q := by
  refine Ok.enter (F := F_131) (ls := [.ref 0, .int x1, .int x2, .ref 337, lDead]) rfl rfl ?_
  refine wp_aload3 (pc' := 1) rfl rfl ?_
  refine wp_iconst (v := nI 0) (pc' := 2) rfl rfl rfl ?_
  refine wp_aload0 (pc' := 3) rfl rfl ?_
  refine wp_iload1 (pc' := 4) rfl rfl ?_
  refine wp_iload2 (pc' := 5) rfl rfl ?_
  refine wp_callV3 (pc' := 8) rfl rfl rfl rfl rfl (by first | exact hk | exact hK) rfl rfl ?_
  refine Ok.mono (Nat.le_refl _) hC (fun o t2 hq => ?_)
  obtain ⟨K2, I2, L2, R2, n2, s2⟩ := t2
  refine wr_q (C := Cont _ _ _ _ _ _ _) hq (fun a hw => ?_) (fun v hK hn hv => ?_)
  · rcases hw with ⟨he, hw⟩ | ⟨he, hw⟩ | hw
    · refine cont_e (h := 13) (by rw [show (lmK (K2, I2, L2, R2, n2, s2) a).1 = 16 from he]; rfl) ?_
      refine wp_astore4 (pc' := 15) rfl rfl rfl ?_
      refine wp_iconst (v := nI 1) (pc' := 16) rfl rfl rfl ?_
      refine wp_iret rfl rfl rfl ?_
      exact hw
    · refine cont_e (h := 17) (by rw [show (lmK (K2, I2, L2, R2, n2, s2) a).1 = 18 from he]; rfl) ?_
      refine wp_astore4 (pc' := 19) rfl rfl rfl ?_
      refine wp_iconst (v := nI 2) (pc' := 20) rfl rfl rfl ?_
      refine wp_iret rfl rfl rfl ?_
      exact hw
    · exact hw.elim
  refine Cont.v ?_
  refine wp_i2l (pc' := 9) rfl rfl ?_
  refine wp_last _ (pc' := 10) rfl (by first | exact hk | exact hK) (by first | exact hn | omega) (by with_reducible rfl) (by first | exact hn | omega) (by first | decide | assumption | omega) rfl ?_
  refine wp_goto rfl ?_
  refine wp_iconst (v := nI 0) (pc' := 22) rfl rfl rfl ?_
  refine wp_iret rfl rfl rfl ?_
  first | exact hv | (rw [if_pos h8] at hv; exact hv) | (rw [if_neg h8] at hv; exact hv)
theorem w_dig {d : Nat} {K : Nat → Nat × Nat} {I : Nat → Nat → Int32} {L : Nat → Nat → Int64} {R : Nat → Nat → Option Nat} {n s : Nat} {Q : Lo → Lm → Prop} {x1 : Int32} (hk : (K 0).1 = 1) (hC : Ok (d + 1) 136 [.ref 0, .int x1] (K, I, L, R, n, s) (WrZ [16] Q)) : Ok (d + 2) 135 [.ref 0, .int x1, .ref 337] (K, I, L, R, n, s) Q := by
  refine Ok.enter (F := F_135) (ls := [.ref 0, .int x1, .ref 337, lDead]) rfl rfl ?_
  refine wp_aload2 (pc' := 1) rfl rfl ?_
  refine wp_iconst (v := nI 0) (pc' := 2) rfl rfl rfl ?_
  refine wp_aload0 (pc' := 3) rfl rfl ?_
  refine wp_iload1 (pc' := 4) rfl rfl ?_
  refine wp_callV2 (pc' := 7) rfl rfl rfl rfl rfl (by first | exact hk | exact hK) rfl rfl ?_
  refine Ok.mono (Nat.le_refl _) hC (fun o t2 hq => ?_)
  obtain ⟨K2, I2, L2, R2, n2, s2⟩ := t2
  refine wr_z (C := Cont _ _ _ _ _ _ _) hq (fun a hw => ?_) (fun v hK hn hv => ?_)
  · rcases hw with ⟨he, hw⟩ | hw
    · refine cont_e (h := 19) (by rw [show (lmK (K2, I2, L2, R2, n2, s2) a).1 = 16 from he]; rfl) ?_
      refine wp_astore3 (pc' := 20) rfl rfl rfl ?_
      refine wp_iconst (v := nI 1) (pc' := 21) rfl rfl rfl ?_
      refine wp_iret rfl rfl rfl ?_
      exact hw
    · exact hw.elim
  refine Cont.v ?_
  first | refine wp_ifeqB (pc' := 10) rfl rfl ?_ ?_ | refine wp_ifeq (pc' := 10) rfl rfl ?_ ?_
  · intro h7
    refine wp_lconst (v := 0) (pc' := 15) rfl rfl rfl ?_
    refine wp_last _ (pc' := 16) rfl (by first | exact hk | exact hK) (by first | exact hn | omega) (by with_reducible rfl) (by first | exact hn | omega) (by first | decide | assumption | omega) rfl ?_
    refine wp_goto rfl ?_
    refine wp_iconst (v := nI 0) (pc' := 23) rfl rfl rfl ?_
    refine wp_iret rfl rfl rfl ?_
    first | exact hv | (rw [if_pos h7] at hv; exact hv) | (rw [if_neg h7] at hv; exact hv)
  · intro h7
    refine wp_lconst (v := 1) (pc' := 11) rfl rfl rfl ?_
    refine wp_goto rfl ?_
    refine wp_last _ (pc' := 16) rfl (by first | exact hk | exact hK) (by first | exact hn | omega) (by with_reducible rfl) (by first | exact hn | omega) (by first | decide | assumption | omega) rfl ?_
    refine wp_goto rfl ?_
    refine wp_iconst (v := nI 0) (pc' := 23) rfl rfl rfl ?_
    refine wp_iret rfl rfl rfl ?_
    first | exact hv | (rw [if_pos h7] at hv; exact hv) | (rw [if_neg h7] at hv; exact hv)
theorem w_block {d : Nat} {K : Nat → Nat × Nat} {I : Nat → Nat → Int32} {L : Nat → Nat → Int64} {R : Nat → Nat → Option Nat} {n s : Nat} {Q : Lo → Lm → Prop} {x1 : Int32} (hk : (K 0).1 = 1) (hC : Ok (d + 1) 138 [.ref 0, .int x1] (K, I, L, R, n, s) (WrZ [16] Q)) : Ok (d + 2) 137 [.ref 0, .int x1, .ref 337] (K, I, L, R, n, s) Q := by
  refine Ok.enter (F := F_137) (ls := [.ref 0, .int x1, .ref 337, lDead]) rfl rfl ?_
  refine wp_aload2 (pc' := 1) rfl rfl ?_
  refine wp_iconst (v := nI 0) (pc' := 2) rfl rfl rfl ?_
  refine wp_aload0 (pc' := 3) rfl rfl ?_
  refine wp_iload1 (pc' := 4) rfl rfl ?_
  refine wp_callV2 (pc' := 7) rfl rfl rfl rfl rfl (by first | exact hk | exact hK) rfl rfl ?_
  refine Ok.mono (Nat.le_refl _) hC (fun o t2 hq => ?_)
  obtain ⟨K2, I2, L2, R2, n2, s2⟩ := t2
  refine wr_z (C := Cont _ _ _ _ _ _ _) hq (fun a hw => ?_) (fun v hK hn hv => ?_)
  · rcases hw with ⟨he, hw⟩ | hw
    · refine cont_e (h := 19) (by rw [show (lmK (K2, I2, L2, R2, n2, s2) a).1 = 16 from he]; rfl) ?_
      refine wp_astore3 (pc' := 20) rfl rfl rfl ?_
      refine wp_iconst (v := nI 1) (pc' := 21) rfl rfl rfl ?_
      refine wp_iret rfl rfl rfl ?_
      exact hw
    · exact hw.elim
  refine Cont.v ?_
  first | refine wp_ifeqB (pc' := 10) rfl rfl ?_ ?_ | refine wp_ifeq (pc' := 10) rfl rfl ?_ ?_
  · intro h7
    refine wp_lconst (v := 0) (pc' := 15) rfl rfl rfl ?_
    refine wp_last _ (pc' := 16) rfl (by first | exact hk | exact hK) (by first | exact hn | omega) (by with_reducible rfl) (by first | exact hn | omega) (by first | decide | assumption | omega) rfl ?_
    refine wp_goto rfl ?_
    refine wp_iconst (v := nI 0) (pc' := 23) rfl rfl rfl ?_
    refine wp_iret rfl rfl rfl ?_
    first | exact hv | (rw [if_pos h7] at hv; exact hv) | (rw [if_neg h7] at hv; exact hv)
  · intro h7
    refine wp_lconst (v := 1) (pc' := 11) rfl rfl rfl ?_
    refine wp_goto rfl ?_
    refine wp_last _ (pc' := 16) rfl (by first | exact hk | exact hK) (by first | exact hn | omega) (by with_reducible rfl) (by first | exact hn | omega) (by first | decide | assumption | omega) rfl ?_
    refine wp_goto rfl ?_
    refine wp_iconst (v := nI 0) (pc' := 23) rfl rfl rfl ?_
    refine wp_iret rfl rfl rfl ?_
    first | exact hv | (rw [if_pos h7] at hv; exact hv) | (rw [if_neg h7] at hv; exact hv)
theorem w_right {d : Nat} {K : Nat → Nat × Nat} {I : Nat → Nat → Int32} {L : Nat → Nat → Int64} {R : Nat → Nat → Option Nat} {n s : Nat} {Q : Lo → Lm → Prop} {x1 x2 x3 : Int32} (hk : (K 0).1 = 1) (hC : Ok (d + 1) 140 [.ref 0, .int x1, .int x2, .int x3] (K, I, L, R, n, s) (WrZ [16] Q)) : Ok (d + 2) 139 [.ref 0, .int x1, .int x2, .int x3, .ref 337] (K, I, L, R, n, s) Q := by
  refine Ok.enter (F := F_139) (ls := [.ref 0, .int x1, .int x2, .int x3, .ref 337, lDead]) rfl rfl ?_
  refine wp_aload4 (pc' := 2) rfl rfl ?_
  refine wp_iconst (v := nI 0) (pc' := 3) rfl rfl rfl ?_
  refine wp_aload0 (pc' := 4) rfl rfl ?_
  refine wp_iload1 (pc' := 5) rfl rfl ?_
  refine wp_iload2 (pc' := 6) rfl rfl ?_
  refine wp_iload3 (pc' := 7) rfl rfl ?_
  refine wp_callV4 (pc' := 10) rfl rfl rfl rfl rfl (by first | exact hk | exact hK) rfl rfl ?_
  refine Ok.mono (Nat.le_refl _) hC (fun o t2 hq => ?_)
  obtain ⟨K2, I2, L2, R2, n2, s2⟩ := t2
  refine wr_z (C := Cont _ _ _ _ _ _ _) hq (fun a hw => ?_) (fun v hK hn hv => ?_)
  · rcases hw with ⟨he, hw⟩ | hw
    · refine cont_e (h := 22) (by rw [show (lmK (K2, I2, L2, R2, n2, s2) a).1 = 16 from he]; rfl) ?_
      refine wp_astore5 (pc' := 24) rfl rfl rfl ?_
      refine wp_iconst (v := nI 1) (pc' := 25) rfl rfl rfl ?_
      refine wp_iret rfl rfl rfl ?_
      exact hw
    · exact hw.elim
  refine Cont.v ?_
  first | refine wp_ifeqB (pc' := 13) rfl rfl ?_ ?_ | refine wp_ifeq (pc' := 13) rfl rfl ?_ ?_
  · intro h10
    refine wp_lconst (v := 0) (pc' := 18) rfl rfl rfl ?_
    refine wp_last _ (pc' := 19) rfl (by first | exact hk | exact hK) (by first | exact hn | omega) (by with_reducible rfl) (by first | exact hn | omega) (by first | decide | assumption | omega) rfl ?_
    refine wp_goto rfl ?_
    refine wp_iconst (v := nI 0) (pc' := 27) rfl rfl rfl ?_
    refine wp_iret rfl rfl rfl ?_
    first | exact hv | (rw [if_pos h10] at hv; exact hv) | (rw [if_neg h10] at hv; exact hv)
  · intro h10
    refine wp_lconst (v := 1) (pc' := 14) rfl rfl rfl ?_
    refine wp_goto rfl ?_
    refine wp_last _ (pc' := 19) rfl (by first | exact hk | exact hK) (by first | exact hn | omega) (by with_reducible rfl) (by first | exact hn | omega) (by first | decide | assumption | omega) rfl ?_
    refine wp_goto rfl ?_
    refine wp_iconst (v := nI 0) (pc' := 27) rfl rfl rfl ?_
    refine wp_iret rfl rfl rfl ?_
    first | exact hv | (rw [if_pos h10] at hv; exact hv) | (rw [if_neg h10] at hv; exact hv)
theorem w_trade {d : Nat} {K : Nat → Nat × Nat} {I : Nat → Nat → Int32} {L : Nat → Nat → Int64} {R : Nat → Nat → Option Nat} {n s : Nat} {Q : Lo → Lm → Prop} {x1 x2 x3 : Int32} (hk : (K 0).1 = 1) (hC : Ok (d + 1) 142 [.ref 0, .int x1, .int x2, .int x3] (K, I, L, R, n, s) (WrQ [16, 14, 18] Q)) : Ok (d + 2) 141 [.ref 0, .int x1, .int x2, .int x3, .ref 337] (K, I, L, R, n, s) Q := by
  refine Ok.enter (F := F_141) (ls := [.ref 0, .int x1, .int x2, .int x3, .ref 337, lDead]) rfl rfl ?_
  refine wp_aload4 (pc' := 2) rfl rfl ?_
  refine wp_iconst (v := nI 0) (pc' := 3) rfl rfl rfl ?_
  refine wp_aload0 (pc' := 4) rfl rfl ?_
  refine wp_iload1 (pc' := 5) rfl rfl ?_
  refine wp_iload2 (pc' := 6) rfl rfl ?_
  refine wp_iload3 (pc' := 7) rfl rfl ?_
  refine wp_callV4 (pc' := 10) rfl rfl rfl rfl rfl (by first | exact hk | exact hK) rfl rfl ?_
  refine Ok.mono (Nat.le_refl _) hC (fun o t2 hq => ?_)
  obtain ⟨K2, I2, L2, R2, n2, s2⟩ := t2
  refine wr_q (C := Cont _ _ _ _ _ _ _) hq (fun a hw => ?_) (fun v hK hn hv => ?_)
  · rcases hw with ⟨he, hw⟩ | ⟨he, hw⟩ | ⟨he, hw⟩ | hw
    · refine cont_e (h := 15) (by rw [show (lmK (K2, I2, L2, R2, n2, s2) a).1 = 16 from he]; rfl) ?_
      refine wp_astore5 (pc' := 17) rfl rfl rfl ?_
      refine wp_iconst (v := nI 1) (pc' := 18) rfl rfl rfl ?_
      refine wp_iret rfl rfl rfl ?_
      exact hw
    · refine cont_e (h := 19) (by rw [show (lmK (K2, I2, L2, R2, n2, s2) a).1 = 14 from he]; rfl) ?_
      refine wp_astore5 (pc' := 21) rfl rfl rfl ?_
      refine wp_iconst (v := nI 2) (pc' := 22) rfl rfl rfl ?_
      refine wp_iret rfl rfl rfl ?_
      exact hw
    · refine cont_e (h := 23) (by rw [show (lmK (K2, I2, L2, R2, n2, s2) a).1 = 18 from he]; rfl) ?_
      refine wp_astore5 (pc' := 25) rfl rfl rfl ?_
      refine wp_iconst (v := nI 3) (pc' := 26) rfl rfl rfl ?_
      refine wp_iret rfl rfl rfl ?_
      exact hw
    · exact hw.elim
  refine Cont.v ?_
  refine wp_i2l (pc' := 11) rfl rfl ?_
  refine wp_last _ (pc' := 12) rfl (by first | exact hk | exact hK) (by first | exact hn | omega) (by with_reducible rfl) (by first | exact hn | omega) (by first | decide | assumption | omega) rfl ?_
  refine wp_goto rfl ?_
  refine wp_iconst (v := nI 0) (pc' := 28) rfl rfl rfl ?_
  refine wp_iret rfl rfl rfl ?_
  first | exact hv | (rw [if_pos h10] at hv; exact hv) | (rw [if_neg h10] at hv; exact hv)
theorem w_sky {d : Nat} {K : Nat → Nat × Nat} {I : Nat → Nat → Int32} {L : Nat → Nat → Int64} {R : Nat → Nat → Option Nat} {n s : Nat} {Q : Lo → Lm → Prop} {x1 x2 : Int32} (hk : (K 0).1 = 1) (hC : Ok (d + 1) 144 [.ref 0, .int x1, .int x2] (K, I, L, R, n, s) (WrQ [14] Q)) : Ok (d + 2) 143 [.ref 0, .int x1, .int x2, .ref 337] (K, I, L, R, n, s) Q := by
  refine Ok.enter (F := F_143) (ls := [.ref 0, .int x1, .int x2, .ref 337, lDead]) rfl rfl ?_
  refine wp_aload3 (pc' := 1) rfl rfl ?_
  refine wp_iconst (v := nI 0) (pc' := 2) rfl rfl rfl ?_
  refine wp_aload0 (pc' := 3) rfl rfl ?_
  refine wp_iload1 (pc' := 4) rfl rfl ?_
  refine wp_iload2 (pc' := 5) rfl rfl ?_
  refine wp_callV3 (pc' := 8) rfl rfl rfl rfl rfl (by first | exact hk | exact hK) rfl rfl ?_
  refine Ok.mono (Nat.le_refl _) hC (fun o t2 hq => ?_)
  obtain ⟨K2, I2, L2, R2, n2, s2⟩ := t2
  refine wr_q (C := Cont _ _ _ _ _ _ _) hq (fun a hw => ?_) (fun v hK hn hv => ?_)
  · rcases hw with ⟨he, hw⟩ | hw
    · refine cont_e (h := 13) (by rw [show (lmK (K2, I2, L2, R2, n2, s2) a).1 = 14 from he]; rfl) ?_
      refine wp_astore4 (pc' := 15) rfl rfl rfl ?_
      refine wp_iconst (v := nI 1) (pc' := 16) rfl rfl rfl ?_
      refine wp_iret rfl rfl rfl ?_
      exact hw
    · exact hw.elim
  refine Cont.v ?_
  refine wp_i2l (pc' := 9) rfl rfl ?_
  refine wp_last _ (pc' := 10) rfl (by first | exact hk | exact hK) (by first | exact hn | omega) (by with_reducible rfl) (by first | exact hn | omega) (by first | decide | assumption | omega) rfl ?_
  refine wp_goto rfl ?_
  refine wp_iconst (v := nI 0) (pc' := 18) rfl rfl rfl ?_
  refine wp_iret rfl rfl rfl ?_
  first | exact hv | (rw [if_pos h8] at hv; exact hv) | (rw [if_neg h8] at hv; exact hv)
theorem w_net {d : Nat} {K : Nat → Nat × Nat} {I : Nat → Nat → Int32} {L : Nat → Nat → Int64} {R : Nat → Nat → Option Nat} {n s : Nat} {Q : Lo → Lm → Prop}  (hk : (K 0).1 = 1) (hC : Ok (d + 1) 146 [.ref 0] (K, I, L, R, n, s) (WrQ [14] Q)) : Ok (d + 2) 145 [.ref 0, .ref 337] (K, I, L, R, n, s) Q := by
  refine Ok.enter (F := F_145) (ls := [.ref 0, .ref 337, lDead]) rfl rfl ?_
  refine wp_aload1 (pc' := 1) rfl rfl ?_
  refine wp_iconst (v := nI 0) (pc' := 2) rfl rfl rfl ?_
  refine wp_aload0 (pc' := 3) rfl rfl ?_
  refine wp_callV1 (pc' := 6) rfl rfl rfl rfl rfl (by first | exact hk | exact hK) rfl rfl ?_
  refine Ok.mono (Nat.le_refl _) hC (fun o t2 hq => ?_)
  obtain ⟨K2, I2, L2, R2, n2, s2⟩ := t2
  refine wr_q (C := Cont _ _ _ _ _ _ _) hq (fun a hw => ?_) (fun v hK hn hv => ?_)
  · rcases hw with ⟨he, hw⟩ | hw
    · refine cont_e (h := 11) (by rw [show (lmK (K2, I2, L2, R2, n2, s2) a).1 = 14 from he]; rfl) ?_
      refine wp_astore2 (pc' := 12) rfl rfl rfl ?_
      refine wp_iconst (v := nI 1) (pc' := 13) rfl rfl rfl ?_
      refine wp_iret rfl rfl rfl ?_
      exact hw
    · exact hw.elim
  refine Cont.v ?_
  refine wp_i2l (pc' := 7) rfl rfl ?_
  refine wp_last _ (pc' := 8) rfl (by first | exact hk | exact hK) (by first | exact hn | omega) (by with_reducible rfl) (by first | exact hn | omega) (by first | decide | assumption | omega) rfl ?_
  refine wp_goto rfl ?_
  refine wp_iconst (v := nI 0) (pc' := 15) rfl rfl rfl ?_
  refine wp_iret rfl rfl rfl ?_
  first | exact hv | (rw [if_pos h6] at hv; exact hv) | (rw [if_neg h6] at hv; exact hv)
theorem w_trunks {d : Nat} {K : Nat → Nat × Nat} {I : Nat → Nat → Int32} {L : Nat → Nat → Int64} {R : Nat → Nat → Option Nat} {n s : Nat} {Q : Lo → Lm → Prop}  (hk : (K 0).1 = 1) (hC : Ok (d + 1) 151 [.ref 0] (K, I, L, R, n, s) (WrQ [14] Q)) : Ok (d + 2) 150 [.ref 0, .ref 337] (K, I, L, R, n, s) Q := by
  refine Ok.enter (F := F_150) (ls := [.ref 0, .ref 337, lDead]) rfl rfl ?_
  refine wp_aload1 (pc' := 1) rfl rfl ?_
  refine wp_iconst (v := nI 0) (pc' := 2) rfl rfl rfl ?_
  refine wp_aload0 (pc' := 3) rfl rfl ?_
  refine wp_callV1 (pc' := 6) rfl rfl rfl rfl rfl (by first | exact hk | exact hK) rfl rfl ?_
  refine Ok.mono (Nat.le_refl _) hC (fun o t2 hq => ?_)
  obtain ⟨K2, I2, L2, R2, n2, s2⟩ := t2
  refine wr_q (C := Cont _ _ _ _ _ _ _) hq (fun a hw => ?_) (fun v hK hn hv => ?_)
  · rcases hw with ⟨he, hw⟩ | hw
    · refine cont_e (h := 11) (by rw [show (lmK (K2, I2, L2, R2, n2, s2) a).1 = 14 from he]; rfl) ?_
      refine wp_astore2 (pc' := 12) rfl rfl rfl ?_
      refine wp_iconst (v := nI 1) (pc' := 13) rfl rfl rfl ?_
      refine wp_iret rfl rfl rfl ?_
      exact hw
    · exact hw.elim
  refine Cont.v ?_
  refine wp_i2l (pc' := 7) rfl rfl ?_
  refine wp_last _ (pc' := 8) rfl (by first | exact hk | exact hK) (by first | exact hn | omega) (by with_reducible rfl) (by first | exact hn | omega) (by first | decide | assumption | omega) rfl ?_
  refine wp_goto rfl ?_
  refine wp_iconst (v := nI 0) (pc' := 15) rfl rfl rfl ?_
  refine wp_iret rfl rfl rfl ?_
  first | exact hv | (rw [if_pos h6] at hv; exact hv) | (rw [if_neg h6] at hv; exact hv)
theorem w_likely {d : Nat} {K : Nat → Nat × Nat} {I : Nat → Nat → Int32} {L : Nat → Nat → Int64} {R : Nat → Nat → Option Nat} {n s : Nat} {Q : Lo → Lm → Prop}  (hk : (K 0).1 = 1) (hC : Ok (d + 1) 158 [.ref 0] (K, I, L, R, n, s) (WrQ [14] Q)) : Ok (d + 2) 157 [.ref 0, .ref 337] (K, I, L, R, n, s) Q := by
  refine Ok.enter (F := F_157) (ls := [.ref 0, .ref 337, lDead]) rfl rfl ?_
  refine wp_aload1 (pc' := 1) rfl rfl ?_
  refine wp_iconst (v := nI 0) (pc' := 2) rfl rfl rfl ?_
  refine wp_aload0 (pc' := 3) rfl rfl ?_
  refine wp_callV1 (pc' := 6) rfl rfl rfl rfl rfl (by first | exact hk | exact hK) rfl rfl ?_
  refine Ok.mono (Nat.le_refl _) hC (fun o t2 hq => ?_)
  obtain ⟨K2, I2, L2, R2, n2, s2⟩ := t2
  refine wr_q (C := Cont _ _ _ _ _ _ _) hq (fun a hw => ?_) (fun v hK hn hv => ?_)
  · rcases hw with ⟨he, hw⟩ | hw
    · refine cont_e (h := 11) (by rw [show (lmK (K2, I2, L2, R2, n2, s2) a).1 = 14 from he]; rfl) ?_
      refine wp_astore2 (pc' := 12) rfl rfl rfl ?_
      refine wp_iconst (v := nI 1) (pc' := 13) rfl rfl rfl ?_
      refine wp_iret rfl rfl rfl ?_
      exact hw
    · exact hw.elim
  refine Cont.v ?_
  refine wp_i2l (pc' := 7) rfl rfl ?_
  refine wp_last _ (pc' := 8) rfl (by first | exact hk | exact hK) (by first | exact hn | omega) (by with_reducible rfl) (by first | exact hn | omega) (by first | decide | assumption | omega) rfl ?_
  refine wp_goto rfl ?_
  refine wp_iconst (v := nI 0) (pc' := 15) rfl rfl rfl ?_
  refine wp_iret rfl rfl rfl ?_
  first | exact hv | (rw [if_pos h6] at hv; exact hv) | (rw [if_neg h6] at hv; exact hv)
theorem w_probe {d : Nat} {K : Nat → Nat × Nat} {I : Nat → Nat → Int32} {L : Nat → Nat → Int64} {R : Nat → Nat → Option Nat} {n s : Nat} {Q : Lo → Lm → Prop}  (hk : (K 0).1 = 1) (hC : Ok (d + 1) 161 [.ref 0] (K, I, L, R, n, s) (WrQ [14] Q)) : Ok (d + 2) 160 [.ref 0, .ref 337] (K, I, L, R, n, s) Q := by
  refine Ok.enter (F := F_160) (ls := [.ref 0, .ref 337, lDead]) rfl rfl ?_
  refine wp_aload1 (pc' := 1) rfl rfl ?_
  refine wp_iconst (v := nI 0) (pc' := 2) rfl rfl rfl ?_
  refine wp_aload0 (pc' := 3) rfl rfl ?_
  refine wp_callV1 (pc' := 6) rfl rfl rfl rfl rfl (by first | exact hk | exact hK) rfl rfl ?_
  refine Ok.mono (Nat.le_refl _) hC (fun o t2 hq => ?_)
  obtain ⟨K2, I2, L2, R2, n2, s2⟩ := t2
  refine wr_q (C := Cont _ _ _ _ _ _ _) hq (fun a hw => ?_) (fun v hK hn hv => ?_)
  · rcases hw with ⟨he, hw⟩ | hw
    · refine cont_e (h := 11) (by rw [show (lmK (K2, I2, L2, R2, n2, s2) a).1 = 14 from he]; rfl) ?_
      refine wp_astore2 (pc' := 12) rfl rfl rfl ?_
      refine wp_iconst (v := nI 1) (pc' := 13) rfl rfl rfl ?_
      refine wp_iret rfl rfl rfl ?_
      exact hw
    · exact hw.elim
  refine Cont.v ?_
  refine wp_i2l (pc' := 7) rfl rfl ?_
  refine wp_last _ (pc' := 8) rfl (by first | exact hk | exact hK) (by first | exact hn | omega) (by with_reducible rfl) (by first | exact hn | omega) (by first | decide | assumption | omega) rfl ?_
  refine wp_goto rfl ?_
  refine wp_iconst (v := nI 0) (pc' := 15) rfl rfl rfl ?_
  refine wp_iret rfl rfl rfl ?_
  first | exact hv | (rw [if_pos h6] at hv; exact hv) | (rw [if_neg h6] at hv; exact hv)
theorem w_falls {d : Nat} {K : Nat → Nat × Nat} {I : Nat → Nat → Int32} {L : Nat → Nat → Int64} {R : Nat → Nat → Option Nat} {n s : Nat} {Q : Lo → Lm → Prop} {x1 : Int32} (hk : (K 0).1 = 1) (hC : Ok (d + 1) 164 [.ref 0, .int x1] (K, I, L, R, n, s) (WrQ [14] Q)) : Ok (d + 2) 163 [.ref 0, .int x1, .ref 337] (K, I, L, R, n, s) Q := by
  refine Ok.enter (F := F_163) (ls := [.ref 0, .int x1, .ref 337, lDead]) rfl rfl ?_
  refine wp_aload2 (pc' := 1) rfl rfl ?_
  refine wp_iconst (v := nI 0) (pc' := 2) rfl rfl rfl ?_
  refine wp_aload0 (pc' := 3) rfl rfl ?_
  refine wp_iload1 (pc' := 4) rfl rfl ?_
  refine wp_callV2 (pc' := 7) rfl rfl rfl rfl rfl (by first | exact hk | exact hK) rfl rfl ?_
  refine Ok.mono (Nat.le_refl _) hC (fun o t2 hq => ?_)
  obtain ⟨K2, I2, L2, R2, n2, s2⟩ := t2
  refine wr_q (C := Cont _ _ _ _ _ _ _) hq (fun a hw => ?_) (fun v hK hn hv => ?_)
  · rcases hw with ⟨he, hw⟩ | hw
    · refine cont_e (h := 12) (by rw [show (lmK (K2, I2, L2, R2, n2, s2) a).1 = 14 from he]; rfl) ?_
      refine wp_astore3 (pc' := 13) rfl rfl rfl ?_
      refine wp_iconst (v := nI 1) (pc' := 14) rfl rfl rfl ?_
      refine wp_iret rfl rfl rfl ?_
      exact hw
    · exact hw.elim
  refine Cont.v ?_
  refine wp_i2l (pc' := 8) rfl rfl ?_
  refine wp_last _ (pc' := 9) rfl (by first | exact hk | exact hK) (by first | exact hn | omega) (by with_reducible rfl) (by first | exact hn | omega) (by first | decide | assumption | omega) rfl ?_
  refine wp_goto rfl ?_
  refine wp_iconst (v := nI 0) (pc' := 16) rfl rfl rfl ?_
  refine wp_iret rfl rfl rfl ?_
  first | exact hv | (rw [if_pos h7] at hv; exact hv) | (rw [if_neg h7] at hv; exact hv)
theorem w_ask {d : Nat} {K : Nat → Nat × Nat} {I : Nat → Nat → Int32} {L : Nat → Nat → Int64} {R : Nat → Nat → Option Nat} {n s : Nat} {Q : Lo → Lm → Prop}  (hk : (K 0).1 = 1) (hC : Ok (d + 1) 172 [.ref 0] (K, I, L, R, n, s) (WrQ [14] Q)) : Ok (d + 2) 171 [.ref 0, .ref 337] (K, I, L, R, n, s) Q := by
  refine Ok.enter (F := F_171) (ls := [.ref 0, .ref 337, lDead]) rfl rfl ?_
  refine wp_aload1 (pc' := 1) rfl rfl ?_
  refine wp_iconst (v := nI 0) (pc' := 2) rfl rfl rfl ?_
  refine wp_aload0 (pc' := 3) rfl rfl ?_
  refine wp_callV1 (pc' := 6) rfl rfl rfl rfl rfl (by first | exact hk | exact hK) rfl rfl ?_
  refine Ok.mono (Nat.le_refl _) hC (fun o t2 hq => ?_)
  obtain ⟨K2, I2, L2, R2, n2, s2⟩ := t2
  refine wr_q (C := Cont _ _ _ _ _ _ _) hq (fun a hw => ?_) (fun v hK hn hv => ?_)
  · rcases hw with ⟨he, hw⟩ | hw
    · refine cont_e (h := 11) (by rw [show (lmK (K2, I2, L2, R2, n2, s2) a).1 = 14 from he]; rfl) ?_
      refine wp_astore2 (pc' := 12) rfl rfl rfl ?_
      refine wp_iconst (v := nI 1) (pc' := 13) rfl rfl rfl ?_
      refine wp_iret rfl rfl rfl ?_
      exact hw
    · exact hw.elim
  refine Cont.v ?_
  refine wp_i2l (pc' := 7) rfl rfl ?_
  refine wp_last _ (pc' := 8) rfl (by first | exact hk | exact hK) (by first | exact hn | omega) (by with_reducible rfl) (by first | exact hn | omega) (by first | decide | assumption | omega) rfl ?_
  refine wp_goto rfl ?_
  refine wp_iconst (v := nI 0) (pc' := 15) rfl rfl rfl ?_
  refine wp_iret rfl rfl rfl ?_
  first | exact hv | (rw [if_pos h6] at hv; exact hv) | (rw [if_neg h6] at hv; exact hv)
theorem w_placed {d : Nat} {K : Nat → Nat × Nat} {I : Nat → Nat → Int32} {L : Nat → Nat → Int64} {R : Nat → Nat → Option Nat} {n s : Nat} {Q : Lo → Lm → Prop} {x1 : Int32} (hk : (K 0).1 = 1) (hC : Ok (d + 1) 177 [.ref 0, .int x1] (K, I, L, R, n, s) (WrQ [16] Q)) : Ok (d + 2) 176 [.ref 0, .int x1, .ref 337] (K, I, L, R, n, s) Q := by
  refine Ok.enter (F := F_176) (ls := [.ref 0, .int x1, .ref 337, lDead]) rfl rfl ?_
  refine wp_aload2 (pc' := 1) rfl rfl ?_
  refine wp_iconst (v := nI 0) (pc' := 2) rfl rfl rfl ?_
  refine wp_aload0 (pc' := 3) rfl rfl ?_
  refine wp_iload1 (pc' := 4) rfl rfl ?_
  refine wp_callV2 (pc' := 7) rfl rfl rfl rfl rfl (by first | exact hk | exact hK) rfl rfl ?_
  refine Ok.mono (Nat.le_refl _) hC (fun o t2 hq => ?_)
  obtain ⟨K2, I2, L2, R2, n2, s2⟩ := t2
  refine wr_q (C := Cont _ _ _ _ _ _ _) hq (fun a hw => ?_) (fun v hK hn hv => ?_)
  · rcases hw with ⟨he, hw⟩ | hw
    · refine cont_e (h := 12) (by rw [show (lmK (K2, I2, L2, R2, n2, s2) a).1 = 16 from he]; rfl) ?_
      refine wp_astore3 (pc' := 13) rfl rfl rfl ?_
      refine wp_iconst (v := nI 1) (pc' := 14) rfl rfl rfl ?_
      refine wp_iret rfl rfl rfl ?_
      exact hw
    · exact hw.elim
  refine Cont.v ?_
  refine wp_i2l (pc' := 8) rfl rfl ?_
  refine wp_last _ (pc' := 9) rfl (by first | exact hk | exact hK) (by first | exact hn | omega) (by with_reducible rfl) (by first | exact hn | omega) (by first | decide | assumption | omega) rfl ?_
  refine wp_goto rfl ?_
  refine wp_iconst (v := nI 0) (pc' := 16) rfl rfl rfl ?_
  refine wp_iret rfl rfl rfl ?_
  first | exact hv | (rw [if_pos h7] at hv; exact hv) | (rw [if_neg h7] at hv; exact hv)
theorem w_hag {d : Nat} {K : Nat → Nat × Nat} {I : Nat → Nat → Int32} {L : Nat → Nat → Int64} {R : Nat → Nat → Option Nat} {n s : Nat} {Q : Lo → Lm → Prop} {x1 : Int32} (hk : (K 0).1 = 1) (hC : Ok (d + 1) 183 [.ref 0, .int x1] (K, I, L, R, n, s) (WrQ [16] Q)) : Ok (d + 2) 182 [.ref 0, .int x1, .ref 337] (K, I, L, R, n, s) Q := by
  refine Ok.enter (F := F_182) (ls := [.ref 0, .int x1, .ref 337, lDead]) rfl rfl ?_
  refine wp_aload2 (pc' := 1) rfl rfl ?_
  refine wp_iconst (v := nI 0) (pc' := 2) rfl rfl rfl ?_
  refine wp_aload0 (pc' := 3) rfl rfl ?_
  refine wp_iload1 (pc' := 4) rfl rfl ?_
  refine wp_callV2 (pc' := 7) rfl rfl rfl rfl rfl (by first | exact hk | exact hK) rfl rfl ?_
  refine Ok.mono (Nat.le_refl _) hC (fun o t2 hq => ?_)
  obtain ⟨K2, I2, L2, R2, n2, s2⟩ := t2
  refine wr_q (C := Cont _ _ _ _ _ _ _) hq (fun a hw => ?_) (fun v hK hn hv => ?_)
  · rcases hw with ⟨he, hw⟩ | hw
    · refine cont_e (h := 12) (by rw [show (lmK (K2, I2, L2, R2, n2, s2) a).1 = 16 from he]; rfl) ?_
      refine wp_astore3 (pc' := 13) rfl rfl rfl ?_
      refine wp_iconst (v := nI 1) (pc' := 14) rfl rfl rfl ?_
      refine wp_iret rfl rfl rfl ?_
      exact hw
    · exact hw.elim
  refine Cont.v ?_
  refine wp_i2l (pc' := 8) rfl rfl ?_
  refine wp_last _ (pc' := 9) rfl (by first | exact hk | exact hK) (by first | exact hn | omega) (by with_reducible rfl) (by first | exact hn | omega) (by first | decide | assumption | omega) rfl ?_
  refine wp_goto rfl ?_
  refine wp_iconst (v := nI 0) (pc' := 16) rfl rfl rfl ?_
  refine wp_iret rfl rfl rfl ?_
  first | exact hv | (rw [if_pos h7] at hv; exact hv) | (rw [if_neg h7] at hv; exact hv)
theorem w_far {d : Nat} {K : Nat → Nat × Nat} {I : Nat → Nat → Int32} {L : Nat → Nat → Int64} {R : Nat → Nat → Option Nat} {n s : Nat} {Q : Lo → Lm → Prop} {x1 x2 : Int32} (hk : (K 0).1 = 1) (hC : Ok (d + 1) 185 [.ref 0, .int x1, .int x2] (K, I, L, R, n, s) (WrQ [16] Q)) : Ok (d + 2) 184 [.ref 0, .int x1, .int x2, .ref 337] (K, I, L, R, n, s) Q := by
  refine Ok.enter (F := F_184) (ls := [.ref 0, .int x1, .int x2, .ref 337, lDead]) rfl rfl ?_
  refine wp_aload3 (pc' := 1) rfl rfl ?_
  refine wp_iconst (v := nI 0) (pc' := 2) rfl rfl rfl ?_
  refine wp_aload0 (pc' := 3) rfl rfl ?_
  refine wp_iload1 (pc' := 4) rfl rfl ?_
  refine wp_iload2 (pc' := 5) rfl rfl ?_
  refine wp_callV3 (pc' := 8) rfl rfl rfl rfl rfl (by first | exact hk | exact hK) rfl rfl ?_
  refine Ok.mono (Nat.le_refl _) hC (fun o t2 hq => ?_)
  obtain ⟨K2, I2, L2, R2, n2, s2⟩ := t2
  refine wr_q (C := Cont _ _ _ _ _ _ _) hq (fun a hw => ?_) (fun v hK hn hv => ?_)
  · rcases hw with ⟨he, hw⟩ | hw
    · refine cont_e (h := 13) (by rw [show (lmK (K2, I2, L2, R2, n2, s2) a).1 = 16 from he]; rfl) ?_
      refine wp_astore4 (pc' := 15) rfl rfl rfl ?_
      refine wp_iconst (v := nI 1) (pc' := 16) rfl rfl rfl ?_
      refine wp_iret rfl rfl rfl ?_
      exact hw
    · exact hw.elim
  refine Cont.v ?_
  refine wp_i2l (pc' := 9) rfl rfl ?_
  refine wp_last _ (pc' := 10) rfl (by first | exact hk | exact hK) (by first | exact hn | omega) (by with_reducible rfl) (by first | exact hn | omega) (by first | decide | assumption | omega) rfl ?_
  refine wp_goto rfl ?_
  refine wp_iconst (v := nI 0) (pc' := 18) rfl rfl rfl ?_
  refine wp_iret rfl rfl rfl ?_
  first | exact hv | (rw [if_pos h8] at hv; exact hv) | (rw [if_neg h8] at hv; exact hv)
theorem w_pairs {d : Nat} {K : Nat → Nat × Nat} {I : Nat → Nat → Int32} {L : Nat → Nat → Int64} {R : Nat → Nat → Option Nat} {n s : Nat} {Q : Lo → Lm → Prop} {x1 : Int32} (hk : (K 0).1 = 1) (hC : Ok (d + 1) 187 [.ref 0, .int x1] (K, I, L, R, n, s) (WrQ [16] Q)) : Ok (d + 2) 186 [.ref 0, .int x1, .ref 337] (K, I, L, R, n, s) Q := by
  refine Ok.enter (F := F_186) (ls := [.ref 0, .int x1, .ref 337, lDead]) rfl rfl ?_
  refine wp_aload2 (pc' := 1) rfl rfl ?_
  refine wp_iconst (v := nI 0) (pc' := 2) rfl rfl rfl ?_
  refine wp_aload0 (pc' := 3) rfl rfl ?_
  refine wp_iload1 (pc' := 4) rfl rfl ?_
  refine wp_callV2 (pc' := 7) rfl rfl rfl rfl rfl (by first | exact hk | exact hK) rfl rfl ?_
  refine Ok.mono (Nat.le_refl _) hC (fun o t2 hq => ?_)
  obtain ⟨K2, I2, L2, R2, n2, s2⟩ := t2
  refine wr_q (C := Cont _ _ _ _ _ _ _) hq (fun a hw => ?_) (fun v hK hn hv => ?_)
  · rcases hw with ⟨he, hw⟩ | hw
    · refine cont_e (h := 12) (by rw [show (lmK (K2, I2, L2, R2, n2, s2) a).1 = 16 from he]; rfl) ?_
      refine wp_astore3 (pc' := 13) rfl rfl rfl ?_
      refine wp_iconst (v := nI 1) (pc' := 14) rfl rfl rfl ?_
      refine wp_iret rfl rfl rfl ?_
      exact hw
    · exact hw.elim
  refine Cont.v ?_
  refine wp_i2l (pc' := 8) rfl rfl ?_
  refine wp_last _ (pc' := 9) rfl (by first | exact hk | exact hK) (by first | exact hn | omega) (by with_reducible rfl) (by first | exact hn | omega) (by first | decide | assumption | omega) rfl ?_
  refine wp_goto rfl ?_
  refine wp_iconst (v := nI 0) (pc' := 16) rfl rfl rfl ?_
  refine wp_iret rfl rfl rfl ?_
  first | exact hv | (rw [if_pos h7] at hv; exact hv) | (rw [if_neg h7] at hv; exact hv)
theorem w_rests {d : Nat} {K : Nat → Nat × Nat} {I : Nat → Nat → Int32} {L : Nat → Nat → Int64} {R : Nat → Nat → Option Nat} {n s : Nat} {Q : Lo → Lm → Prop} {x1 x2 : Int32} (hk : (K 0).1 = 1) (hC : Ok (d + 1) 191 [.ref 0, .int x1, .int x2] (K, I, L, R, n, s) (WrQ [16, 14] Q)) : Ok (d + 2) 190 [.ref 0, .int x1, .int x2, .ref 337] (K, I, L, R, n, s) Q := by
  refine Ok.enter (F := F_190) (ls := [.ref 0, .int x1, .int x2, .ref 337, lDead]) rfl rfl ?_
  refine wp_aload3 (pc' := 1) rfl rfl ?_
  refine wp_iconst (v := nI 0) (pc' := 2) rfl rfl rfl ?_
  refine wp_aload0 (pc' := 3) rfl rfl ?_
  refine wp_iload1 (pc' := 4) rfl rfl ?_
  refine wp_iload2 (pc' := 5) rfl rfl ?_
  refine wp_callV3 (pc' := 8) rfl rfl rfl rfl rfl (by first | exact hk | exact hK) rfl rfl ?_
  refine Ok.mono (Nat.le_refl _) hC (fun o t2 hq => ?_)
  obtain ⟨K2, I2, L2, R2, n2, s2⟩ := t2
  refine wr_q (C := Cont _ _ _ _ _ _ _) hq (fun a hw => ?_) (fun v hK hn hv => ?_)
  · rcases hw with ⟨he, hw⟩ | ⟨he, hw⟩ | hw
    · refine cont_e (h := 13) (by rw [show (lmK (K2, I2, L2, R2, n2, s2) a).1 = 16 from he]; rfl) ?_
      refine wp_astore4 (pc' := 15) rfl rfl rfl ?_
      refine wp_iconst (v := nI 1) (pc' := 16) rfl rfl rfl ?_
      refine wp_iret rfl rfl rfl ?_
      exact hw
    · refine cont_e (h := 17) (by rw [show (lmK (K2, I2, L2, R2, n2, s2) a).1 = 14 from he]; rfl) ?_
      refine wp_astore4 (pc' := 19) rfl rfl rfl ?_
      refine wp_iconst (v := nI 2) (pc' := 20) rfl rfl rfl ?_
      refine wp_iret rfl rfl rfl ?_
      exact hw
    · exact hw.elim
  refine Cont.v ?_
  refine wp_i2l (pc' := 9) rfl rfl ?_
  refine wp_last _ (pc' := 10) rfl (by first | exact hk | exact hK) (by first | exact hn | omega) (by with_reducible rfl) (by first | exact hn | omega) (by first | decide | assumption | omega) rfl ?_
  refine wp_goto rfl ?_
  refine wp_iconst (v := nI 0) (pc' := 22) rfl rfl rfl ?_
  refine wp_iret rfl rfl rfl ?_
  first | exact hv | (rw [if_pos h8] at hv; exact hv) | (rw [if_neg h8] at hv; exact hv)
theorem w_odds {d : Nat} {K : Nat → Nat × Nat} {I : Nat → Nat → Int32} {L : Nat → Nat → Int64} {R : Nat → Nat → Option Nat} {n s : Nat} {Q : Lo → Lm → Prop} {x1 x2 : Int32} (hk : (K 0).1 = 1) (hC : Ok (d + 1) 194 [.ref 0, .int x1, .int x2] (K, I, L, R, n, s) (WrQ [14] Q)) : Ok (d + 2) 193 [.ref 0, .int x1, .int x2, .ref 337] (K, I, L, R, n, s) Q := by
  refine Ok.enter (F := F_193) (ls := [.ref 0, .int x1, .int x2, .ref 337, lDead]) rfl rfl ?_
  refine wp_aload3 (pc' := 1) rfl rfl ?_
  refine wp_iconst (v := nI 0) (pc' := 2) rfl rfl rfl ?_
  refine wp_aload0 (pc' := 3) rfl rfl ?_
  refine wp_iload1 (pc' := 4) rfl rfl ?_
  refine wp_iload2 (pc' := 5) rfl rfl ?_
  refine wp_callV3 (pc' := 8) rfl rfl rfl rfl rfl (by first | exact hk | exact hK) rfl rfl ?_
  refine Ok.mono (Nat.le_refl _) hC (fun o t2 hq => ?_)
  obtain ⟨K2, I2, L2, R2, n2, s2⟩ := t2
  refine wr_q (C := Cont _ _ _ _ _ _ _) hq (fun a hw => ?_) (fun v hK hn hv => ?_)
  · rcases hw with ⟨he, hw⟩ | hw
    · refine cont_e (h := 13) (by rw [show (lmK (K2, I2, L2, R2, n2, s2) a).1 = 14 from he]; rfl) ?_
      refine wp_astore4 (pc' := 15) rfl rfl rfl ?_
      refine wp_iconst (v := nI 1) (pc' := 16) rfl rfl rfl ?_
      refine wp_iret rfl rfl rfl ?_
      exact hw
    · exact hw.elim
  refine Cont.v ?_
  refine wp_i2l (pc' := 9) rfl rfl ?_
  refine wp_last _ (pc' := 10) rfl (by first | exact hk | exact hK) (by first | exact hn | omega) (by with_reducible rfl) (by first | exact hn | omega) (by first | decide | assumption | omega) rfl ?_
  refine wp_goto rfl ?_
  refine wp_iconst (v := nI 0) (pc' := 18) rfl rfl rfl ?_
  refine wp_iret rfl rfl rfl ?_
  first | exact hv | (rw [if_pos h8] at hv; exact hv) | (rw [if_neg h8] at hv; exact hv)
theorem w_staged {d : Nat} {K : Nat → Nat × Nat} {I : Nat → Nat → Int32} {L : Nat → Nat → Int64} {R : Nat → Nat → Option Nat} {n s : Nat} {Q : Lo → Lm → Prop} {x1 : Int32} (hk : (K 0).1 = 1) (hC : Ok (d + 1) 197 [.ref 0, .int x1] (K, I, L, R, n, s) (WrQ [16] Q)) : Ok (d + 2) 196 [.ref 0, .int x1, .ref 337] (K, I, L, R, n, s) Q := by
  refine Ok.enter (F := F_196) (ls := [.ref 0, .int x1, .ref 337, lDead]) rfl rfl ?_
  refine wp_aload2 (pc' := 1) rfl rfl ?_
  refine wp_iconst (v := nI 0) (pc' := 2) rfl rfl rfl ?_
  refine wp_aload0 (pc' := 3) rfl rfl ?_
  refine wp_iload1 (pc' := 4) rfl rfl ?_
  refine wp_callV2 (pc' := 7) rfl rfl rfl rfl rfl (by first | exact hk | exact hK) rfl rfl ?_
  refine Ok.mono (Nat.le_refl _) hC (fun o t2 hq => ?_)
  obtain ⟨K2, I2, L2, R2, n2, s2⟩ := t2
  refine wr_q (C := Cont _ _ _ _ _ _ _) hq (fun a hw => ?_) (fun v hK hn hv => ?_)
  · rcases hw with ⟨he, hw⟩ | hw
    · refine cont_e (h := 12) (by rw [show (lmK (K2, I2, L2, R2, n2, s2) a).1 = 16 from he]; rfl) ?_
      refine wp_astore3 (pc' := 13) rfl rfl rfl ?_
      refine wp_iconst (v := nI 1) (pc' := 14) rfl rfl rfl ?_
      refine wp_iret rfl rfl rfl ?_
      exact hw
    · exact hw.elim
  refine Cont.v ?_
  refine wp_i2l (pc' := 8) rfl rfl ?_
  refine wp_last _ (pc' := 9) rfl (by first | exact hk | exact hK) (by first | exact hn | omega) (by with_reducible rfl) (by first | exact hn | omega) (by first | decide | assumption | omega) rfl ?_
  refine wp_goto rfl ?_
  refine wp_iconst (v := nI 0) (pc' := 16) rfl rfl rfl ?_
  refine wp_iret rfl rfl rfl ?_
  first | exact hv | (rw [if_pos h7] at hv; exact hv) | (rw [if_neg h7] at hv; exact hv)
theorem w_ahead {d : Nat} {K : Nat → Nat × Nat} {I : Nat → Nat → Int32} {L : Nat → Nat → Int64} {R : Nat → Nat → Option Nat} {n s : Nat} {Q : Lo → Lm → Prop} {x1 x2 x3 : Int32} (hk : (K 0).1 = 1) (hC : Ok (d + 1) 199 [.ref 0, .int x1, .int x2, .int x3] (K, I, L, R, n, s) (WrQ [16, 14, 17] Q)) : Ok (d + 2) 198 [.ref 0, .int x1, .int x2, .int x3, .ref 337] (K, I, L, R, n, s) Q := by
  refine Ok.enter (F := F_198) (ls := [.ref 0, .int x1, .int x2, .int x3, .ref 337, lDead]) rfl rfl ?_
  refine wp_aload4 (pc' := 2) rfl rfl ?_
  refine wp_iconst (v := nI 0) (pc' := 3) rfl rfl rfl ?_
  refine wp_aload0 (pc' := 4) rfl rfl ?_
  refine wp_iload1 (pc' := 5) rfl rfl ?_
  refine wp_iload2 (pc' := 6) rfl rfl ?_
  refine wp_iload3 (pc' := 7) rfl rfl ?_
  refine wp_callV4 (pc' := 10) rfl rfl rfl rfl rfl (by first | exact hk | exact hK) rfl rfl ?_
  refine Ok.mono (Nat.le_refl _) hC (fun o t2 hq => ?_)
  obtain ⟨K2, I2, L2, R2, n2, s2⟩ := t2
  refine wr_q (C := Cont _ _ _ _ _ _ _) hq (fun a hw => ?_) (fun v hK hn hv => ?_)
  · rcases hw with ⟨he, hw⟩ | ⟨he, hw⟩ | ⟨he, hw⟩ | hw
    · refine cont_e (h := 15) (by rw [show (lmK (K2, I2, L2, R2, n2, s2) a).1 = 16 from he]; rfl) ?_
      refine wp_astore5 (pc' := 17) rfl rfl rfl ?_
      refine wp_iconst (v := nI 1) (pc' := 18) rfl rfl rfl ?_
      refine wp_iret rfl rfl rfl ?_
      exact hw
    · refine cont_e (h := 19) (by rw [show (lmK (K2, I2, L2, R2, n2, s2) a).1 = 14 from he]; rfl) ?_
      refine wp_astore5 (pc' := 21) rfl rfl rfl ?_
      refine wp_iconst (v := nI 2) (pc' := 22) rfl rfl rfl ?_
      refine wp_iret rfl rfl rfl ?_
      exact hw
    · refine cont_e (h := 23) (by rw [show (lmK (K2, I2, L2, R2, n2, s2) a).1 = 17 from he]; rfl) ?_
      refine wp_astore5 (pc' := 25) rfl rfl rfl ?_
      refine wp_iconst (v := nI 3) (pc' := 26) rfl rfl rfl ?_
      refine wp_iret rfl rfl rfl ?_
      exact hw
    · exact hw.elim
  refine Cont.v ?_
  refine wp_i2l (pc' := 11) rfl rfl ?_
  refine wp_last _ (pc' := 12) rfl (by first | exact hk | exact hK) (by first | exact hn | omega) (by with_reducible rfl) (by first | exact hn | omega) (by first | decide | assumption | omega) rfl ?_
  refine wp_goto rfl ?_
  refine wp_iconst (v := nI 0) (pc' := 28) rfl rfl rfl ?_
  refine wp_iret rfl rfl rfl ?_
  first | exact hv | (rw [if_pos h10] at hv; exact hv) | (rw [if_neg h10] at hv; exact hv)
theorem w_trial {d : Nat} {K : Nat → Nat × Nat} {I : Nat → Nat → Int32} {L : Nat → Nat → Int64} {R : Nat → Nat → Option Nat} {n s : Nat} {Q : Lo → Lm → Prop} {x1 x2 : Int32} (hk : (K 0).1 = 1) (hC : Ok (d + 1) 201 [.ref 0, .int x1, .int x2] (K, I, L, R, n, s) (WrQ [14] Q)) : Ok (d + 2) 200 [.ref 0, .int x1, .int x2, .ref 337] (K, I, L, R, n, s) Q := by
  refine Ok.enter (F := F_200) (ls := [.ref 0, .int x1, .int x2, .ref 337, lDead]) rfl rfl ?_
  refine wp_aload3 (pc' := 1) rfl rfl ?_
  refine wp_iconst (v := nI 0) (pc' := 2) rfl rfl rfl ?_
  refine wp_aload0 (pc' := 3) rfl rfl ?_
  refine wp_iload1 (pc' := 4) rfl rfl ?_
  refine wp_iload2 (pc' := 5) rfl rfl ?_
  refine wp_callV3 (pc' := 8) rfl rfl rfl rfl rfl (by first | exact hk | exact hK) rfl rfl ?_
  refine Ok.mono (Nat.le_refl _) hC (fun o t2 hq => ?_)
  obtain ⟨K2, I2, L2, R2, n2, s2⟩ := t2
  refine wr_q (C := Cont _ _ _ _ _ _ _) hq (fun a hw => ?_) (fun v hK hn hv => ?_)
  · rcases hw with ⟨he, hw⟩ | hw
    · refine cont_e (h := 13) (by rw [show (lmK (K2, I2, L2, R2, n2, s2) a).1 = 14 from he]; rfl) ?_
      refine wp_astore4 (pc' := 15) rfl rfl rfl ?_
      refine wp_iconst (v := nI 1) (pc' := 16) rfl rfl rfl ?_
      refine wp_iret rfl rfl rfl ?_
      exact hw
    · exact hw.elim
  refine Cont.v ?_
  refine wp_i2l (pc' := 9) rfl rfl ?_
  refine wp_last _ (pc' := 10) rfl (by first | exact hk | exact hK) (by first | exact hn | omega) (by with_reducible rfl) (by first | exact hn | omega) (by first | decide | assumption | omega) rfl ?_
  refine wp_goto rfl ?_
  refine wp_iconst (v := nI 0) (pc' := 18) rfl rfl rfl ?_
  refine wp_iret rfl rfl rfl ?_
  first | exact hv | (rw [if_pos h8] at hv; exact hv) | (rw [if_neg h8] at hv; exact hv)
theorem w_span {d : Nat} {K : Nat → Nat × Nat} {I : Nat → Nat → Int32} {L : Nat → Nat → Int64} {R : Nat → Nat → Option Nat} {n s : Nat} {Q : Lo → Lm → Prop} {x1 x2 : Int32} (hk : (K 0).1 = 1) (hC : Ok (d + 1) 204 [.ref 0, .int x1, .int x2] (K, I, L, R, n, s) (WrQ [14] Q)) : Ok (d + 2) 203 [.ref 0, .int x1, .int x2, .ref 337] (K, I, L, R, n, s) Q := by
  refine Ok.enter (F := F_203) (ls := [.ref 0, .int x1, .int x2, .ref 337, lDead]) rfl rfl ?_
  refine wp_aload3 (pc' := 1) rfl rfl ?_
  refine wp_iconst (v := nI 0) (pc' := 2) rfl rfl rfl ?_
  refine wp_aload0 (pc' := 3) rfl rfl ?_
  refine wp_iload1 (pc' := 4) rfl rfl ?_
  refine wp_iload2 (pc' := 5) rfl rfl ?_
  refine wp_callV3 (pc' := 8) rfl rfl rfl rfl rfl (by first | exact hk | exact hK) rfl rfl ?_
  refine Ok.mono (Nat.le_refl _) hC (fun o t2 hq => ?_)
  obtain ⟨K2, I2, L2, R2, n2, s2⟩ := t2
  refine wr_q (C := Cont _ _ _ _ _ _ _) hq (fun a hw => ?_) (fun v hK hn hv => ?_)
  · rcases hw with ⟨he, hw⟩ | hw
    · refine cont_e (h := 13) (by rw [show (lmK (K2, I2, L2, R2, n2, s2) a).1 = 14 from he]; rfl) ?_
      refine wp_astore4 (pc' := 15) rfl rfl rfl ?_
      refine wp_iconst (v := nI 1) (pc' := 16) rfl rfl rfl ?_
      refine wp_iret rfl rfl rfl ?_
      exact hw
    · exact hw.elim
  refine Cont.v ?_
  refine wp_i2l (pc' := 9) rfl rfl ?_
  refine wp_last _ (pc' := 10) rfl (by first | exact hk | exact hK) (by first | exact hn | omega) (by with_reducible rfl) (by first | exact hn | omega) (by first | decide | assumption | omega) rfl ?_
  refine wp_goto rfl ?_
  refine wp_iconst (v := nI 0) (pc' := 18) rfl rfl rfl ?_
  refine wp_iret rfl rfl rfl ?_
  first | exact hv | (rw [if_pos h8] at hv; exact hv) | (rw [if_neg h8] at hv; exact hv)
theorem w_led {d : Nat} {K : Nat → Nat × Nat} {I : Nat → Nat → Int32} {L : Nat → Nat → Int64} {R : Nat → Nat → Option Nat} {n s : Nat} {Q : Lo → Lm → Prop} {x1 x2 : Int32} (hk : (K 0).1 = 1) (hC : Ok (d + 1) 206 [.ref 0, .int x1, .int x2] (K, I, L, R, n, s) (WrQ [16] Q)) : Ok (d + 2) 205 [.ref 0, .int x1, .int x2, .ref 337] (K, I, L, R, n, s) Q := by
  refine Ok.enter (F := F_205) (ls := [.ref 0, .int x1, .int x2, .ref 337, lDead]) rfl rfl ?_
  refine wp_aload3 (pc' := 1) rfl rfl ?_
  refine wp_iconst (v := nI 0) (pc' := 2) rfl rfl rfl ?_
  refine wp_aload0 (pc' := 3) rfl rfl ?_
  refine wp_iload1 (pc' := 4) rfl rfl ?_
  refine wp_iload2 (pc' := 5) rfl rfl ?_
  refine wp_callV3 (pc' := 8) rfl rfl rfl rfl rfl (by first | exact hk | exact hK) rfl rfl ?_
  refine Ok.mono (Nat.le_refl _) hC (fun o t2 hq => ?_)
  obtain ⟨K2, I2, L2, R2, n2, s2⟩ := t2
  refine wr_q (C := Cont _ _ _ _ _ _ _) hq (fun a hw => ?_) (fun v hK hn hv => ?_)
  · rcases hw with ⟨he, hw⟩ | hw
    · refine cont_e (h := 13) (by rw [show (lmK (K2, I2, L2, R2, n2, s2) a).1 = 16 from he]; rfl) ?_
      refine wp_astore4 (pc' := 15) rfl rfl rfl ?_
      refine wp_iconst (v := nI 1) (pc' := 16) rfl rfl rfl ?_
      refine wp_iret rfl rfl rfl ?_
      exact hw
    · exact hw.elim
  refine Cont.v ?_
  refine wp_i2l (pc' := 9) rfl rfl ?_
  refine wp_last _ (pc' := 10) rfl (by first | exact hk | exact hK) (by first | exact hn | omega) (by with_reducible rfl) (by first | exact hn | omega) (by first | decide | assumption | omega) rfl ?_
  refine wp_goto rfl ?_
  refine wp_iconst (v := nI 0) (pc' := 18) rfl rfl rfl ?_
  refine wp_iret rfl rfl rfl ?_
  first | exact hv | (rw [if_pos h8] at hv; exact hv) | (rw [if_neg h8] at hv; exact hv)
theorem w_log {d : Nat} {K : Nat → Nat × Nat} {I : Nat → Nat → Int32} {L : Nat → Nat → Int64} {R : Nat → Nat → Option Nat} {n s : Nat} {Q : Lo → Lm → Prop} {x1 x2 : Int32} (hk : (K 0).1 = 1) (hC : Ok (d + 1) 209 [.ref 0, .int x1, .int x2] (K, I, L, R, n, s) (WrQ [17] Q)) : Ok (d + 2) 208 [.ref 0, .int x1, .int x2, .ref 337] (K, I, L, R, n, s) Q := by
  refine Ok.enter (F := F_208) (ls := [.ref 0, .int x1, .int x2, .ref 337, lDead]) rfl rfl ?_
  refine wp_aload3 (pc' := 1) rfl rfl ?_
  refine wp_iconst (v := nI 0) (pc' := 2) rfl rfl rfl ?_
  refine wp_aload0 (pc' := 3) rfl rfl ?_
  refine wp_iload1 (pc' := 4) rfl rfl ?_
  refine wp_iload2 (pc' := 5) rfl rfl ?_
  refine wp_callV3 (pc' := 8) rfl rfl rfl rfl rfl (by first | exact hk | exact hK) rfl rfl ?_
  refine Ok.mono (Nat.le_refl _) hC (fun o t2 hq => ?_)
  obtain ⟨K2, I2, L2, R2, n2, s2⟩ := t2
  refine wr_q (C := Cont _ _ _ _ _ _ _) hq (fun a hw => ?_) (fun v hK hn hv => ?_)
  · rcases hw with ⟨he, hw⟩ | hw
    · refine cont_e (h := 13) (by rw [show (lmK (K2, I2, L2, R2, n2, s2) a).1 = 17 from he]; rfl) ?_
      refine wp_astore4 (pc' := 15) rfl rfl rfl ?_
      refine wp_iconst (v := nI 1) (pc' := 16) rfl rfl rfl ?_
      refine wp_iret rfl rfl rfl ?_
      exact hw
    · exact hw.elim
  refine Cont.v ?_
  refine wp_i2l (pc' := 9) rfl rfl ?_
  refine wp_last _ (pc' := 10) rfl (by first | exact hk | exact hK) (by first | exact hn | omega) (by with_reducible rfl) (by first | exact hn | omega) (by first | decide | assumption | omega) rfl ?_
  refine wp_goto rfl ?_
  refine wp_iconst (v := nI 0) (pc' := 18) rfl rfl rfl ?_
  refine wp_iret rfl rfl rfl ?_
  first | exact hv | (rw [if_pos h8] at hv; exact hv) | (rw [if_neg h8] at hv; exact hv)
