/-! WHAT CHANGES A STATE -/
theorem up2_o {α : Type} {f : Nat → Nat → α} {b x y k : Nat} {v : α} (h : y ≠ x) : up2 f (b + x) k v (b + y) = f (b + y) := up2_row (by omega)
theorem up2_o0 {α : Type} {f : Nat → Nat → α} {b x k : Nat} {v : α} (h : 0 ≠ x) : up2 f (b + x) k v b = f b := up2_row (by omega)
theorem up2_0o {α : Type} {f : Nat → Nat → α} {b y k : Nat} {v : α} (h : y ≠ 0) : up2 f b k v (b + y) = f (b + y) := up2_row (by omega)
def wrM (I : Mem) (b q : Nat) (dy h c kd t : Int32) : Mem :=
  up2 (up2 (up2 (up2 (up2 (up2 (up2 I (b + 11) (q * 5) dy) (b + 11) (q * 5 + 1) h) (b + 11) (q * 5 + 2) c) (b + 11) (q * 5 + 3) kd) (b + 11) (q * 5 + 4) t) (b + 10) 1 (nI ((q + 1) % 60))) (b + 10) 2 (jmin (I (b + 10) 2 + nI 1) (nI 60))
theorem wrM_o {I : Mem} {b q y : Nat} {dy h c kd t : Int32} (h0 : y ≠ 10) (h1 : y ≠ 11) : wrM I b q dy h c kd t (b + y) = I (b + y) := by
  unfold wrM; simp only [up2_o h0, up2_o h1]
theorem wrM_0 {I : Mem} {b q : Nat} {dy h c kd t : Int32} : wrM I b q dy h c kd t b = I b := by
  unfold wrM; simp +decide only [up2_o0]
def cutM (I : Mem) (b h c : Nat) (kd : Int32) (q : Nat) : Mem :=
  wrM (up2 (up2 (up2 (up2 I (b + 4) c (if nI 0 < I (b + 3) c + I (b + 6) h then I (b + 4) c * I (b + 3) c / (I (b + 3) c + I (b + 6) h) else nI 0)) (b + 5) c (nI 0)) (b + 3) c (I (b + 3) c + I (b + 6) h)) (b + 1) c (I (b + 1) c - nI 1)) b q (I b 15) (nI h) (nI c) kd (I (b + 6) h)
def addM (I : Mem) (b h : Nat) (x : Int32) : Mem := up2 I (b + 8) h (jmin (I (b + 8) h + x) (nI 999))
def cartM (I : Mem) (b h c : Nat) (q : Nat) : Mem := up2 (up2 (up2 (addM (wrM I b q (I b 15) (nI h) (nI c) (nI 2) (I (b + 3) c)) b h (I (b + 3) c)) (b + 3) c (nI 0)) (b + 4) c (nI 0)) (b + 5) c (nI 0)
def seedN (x : Int32) : Int32 := nI 1103515245 * x + nI 12345
def drawV (x : Int32) : Int32 := jushr x (nI 16) &&& nI 32767
def skyM (I : Mem) (b : Nat) : Mem := up2 (up2 (up2 (up2 I b 16 (seedN (I b 16))) b 12 (jrem (drawV (seedN (I b 16))) (nI 10))) b 16 (seedN (seedN (I b 16)))) b 14 (if jrem (drawV (seedN (seedN (I b 16)))) (nI 100) < I b 13 then nI 1 else nI 0)
theorem pos_ne {x : Int32} (h : nI 0 < x) : ¬ x = nI 0 := fun e => by rw [e] at h; exact absurd h (by decide)

theorem c_write {d : Nat} {K : Nat → Nat × Nat} {I : Nat → Nat → Int32} {L : Nat → Nat → Int64} {R : Nat → Nat → Option Nat} {n s : Nat} {Q : Lo → Lm → Prop} {b : Nat} {dy h c kd t : Int32} (hb : StK K R n b) {q : Nat} (hq : I (b + 10) 1 = nI q) (hq60 : q < 60) (kk : Q (.inl none) (K, wrM I b q dy h c kd t, L, R, n, s)) : Ok (d + 1) 40 [.ref (b + 10), .int dy, .int h, .int c, .int kd, .int t] (K, I, L, R, n, s) Q := by
  obtain ⟨k0, k1, k2, k3, k4, k5, k6, k7, k8, k9, k10, k11, r0, r1, r2, r3, r4, r5, r6, r7, r8, r9, r10, hbn⟩ := id hb
  refine Ok.enter (F := F_40) (ls := [.ref (b + 10), .int dy, .int h, .int c, .int kd, .int t, lDead]) rfl rfl ?_
  refine wp_aload0 (pc' := 1) rfl rfl ?_
  refine wp_getI (pc' := 4) rfl rfl (by assumption) rfl ?_
  rw [hq]
  refine wp_iconst (v := nI 5) (pc' := 5) rfl rfl rfl ?_
  first | refine wp_imulN (pc' := 6) rfl (by with_reducible rfl) (by with_reducible rfl) rfl ?_ | refine wp_imul (pc' := 6) rfl rfl ?_
  refine wp_istore6 (pc' := 8) rfl (by first | rfl | assumption) rfl ?_
  refine wp_aload0 (pc' := 9) rfl rfl ?_
  refine wp_getRF (pc' := 12) rfl rfl (by assumption) (by assumption) rfl ?_
  refine wp_iload6 (pc' := 14) rfl rfl ?_
  refine wp_iload1 (pc' := 15) rfl rfl ?_
  refine wp_iast _ (pc' := 16) rfl (by assumption) (by omega) (by with_reducible rfl) (by omega) (by first | decide | assumption | omega) rfl ?_
  refine wp_aload0 (pc' := 17) rfl rfl ?_
  refine wp_getRF (pc' := 20) rfl rfl (by assumption) (by assumption) rfl ?_
  refine wp_iload6 (pc' := 22) rfl rfl ?_
  refine wp_iconst (v := nI 1) (pc' := 23) rfl rfl rfl ?_
  first | refine wp_iaddN (pc' := 24) rfl (by with_reducible rfl) (by with_reducible rfl) rfl ?_ | refine wp_iadd (pc' := 24) rfl rfl ?_
  refine wp_iload2 (pc' := 25) rfl rfl ?_
  refine wp_iast _ (pc' := 26) rfl (by assumption) (by omega) (by with_reducible rfl) (by omega) (by first | decide | assumption | omega) rfl ?_
  refine wp_aload0 (pc' := 27) rfl rfl ?_
  refine wp_getRF (pc' := 30) rfl rfl (by assumption) (by assumption) rfl ?_
  refine wp_iload6 (pc' := 32) rfl rfl ?_
  refine wp_iconst (v := nI 2) (pc' := 33) rfl rfl rfl ?_
  first | refine wp_iaddN (pc' := 34) rfl (by with_reducible rfl) (by with_reducible rfl) rfl ?_ | refine wp_iadd (pc' := 34) rfl rfl ?_
  refine wp_iload3 (pc' := 35) rfl rfl ?_
  refine wp_iast _ (pc' := 36) rfl (by assumption) (by omega) (by with_reducible rfl) (by omega) (by first | decide | assumption | omega) rfl ?_
  refine wp_aload0 (pc' := 37) rfl rfl ?_
  refine wp_getRF (pc' := 40) rfl rfl (by assumption) (by assumption) rfl ?_
  refine wp_iload6 (pc' := 42) rfl rfl ?_
  refine wp_iconst (v := nI 3) (pc' := 43) rfl rfl rfl ?_
  first | refine wp_iaddN (pc' := 44) rfl (by with_reducible rfl) (by with_reducible rfl) rfl ?_ | refine wp_iadd (pc' := 44) rfl rfl ?_
  refine wp_iload4 (pc' := 46) rfl rfl ?_
  refine wp_iast _ (pc' := 47) rfl (by assumption) (by omega) (by with_reducible rfl) (by omega) (by first | decide | assumption | omega) rfl ?_
  refine wp_aload0 (pc' := 48) rfl rfl ?_
  refine wp_getRF (pc' := 51) rfl rfl (by assumption) (by assumption) rfl ?_
  refine wp_iload6 (pc' := 53) rfl rfl ?_
  refine wp_iconst (v := nI 4) (pc' := 54) rfl rfl rfl ?_
  first | refine wp_iaddN (pc' := 55) rfl (by with_reducible rfl) (by with_reducible rfl) rfl ?_ | refine wp_iadd (pc' := 55) rfl rfl ?_
  refine wp_iload5 (pc' := 57) rfl rfl ?_
  refine wp_iast _ (pc' := 58) rfl (by assumption) (by omega) (by with_reducible rfl) (by omega) (by first | decide | assumption | omega) rfl ?_
  refine wp_aload0 (pc' := 59) rfl rfl ?_
  refine wp_aload0 (pc' := 60) rfl rfl ?_
  refine wp_getI (pc' := 63) rfl rfl (by assumption) rfl ?_
  simp +decide only [up2_o, up2_o0, up2_0o, up2_same, ↓reduceIte]
  rw [hq]
  refine wp_iconst (v := nI 1) (pc' := 64) rfl rfl rfl ?_
  first | refine wp_iaddN (pc' := 65) rfl (by with_reducible rfl) (by with_reducible rfl) rfl ?_ | refine wp_iadd (pc' := 65) rfl rfl ?_
  refine wp_bipush (v := nI 60) (pc' := 67) rfl rfl rfl ?_
  first | refine wp_iremN (pc' := 68) rfl (by with_reducible rfl) (by with_reducible rfl) (by omega) (by omega) (by omega) rfl ?_ | refine wp_irem (pc' := 68) rfl (by decide) rfl ?_
  refine wp_putI (pc' := 71) rfl rfl (by assumption) (by omega) rfl ?_
  refine wp_aload0 (pc' := 72) rfl rfl ?_
  refine wp_aload0 (pc' := 73) rfl rfl ?_
  refine wp_getI (pc' := 76) rfl rfl (by assumption) rfl ?_
  simp +decide only [up2_o, up2_o0, up2_0o, up2_same, ↓reduceIte]
  refine wp_iconst (v := nI 1) (pc' := 77) rfl rfl rfl ?_
  first | refine wp_iaddN (pc' := 78) rfl (by with_reducible rfl) (by with_reducible rfl) rfl ?_ | refine wp_iadd (pc' := 78) rfl rfl ?_
  refine wp_bipush (v := nI 60) (pc' := 80) rfl rfl rfl ?_
  refine wp_min (pc' := 83) rfl rfl rfl rfl ?_
  refine wp_putI (pc' := 86) rfl rfl (by assumption) (by omega) rfl ?_
  refine wp_vret rfl rfl ?_
  exact kk
theorem c_cutAt {d : Nat} {K : Nat → Nat × Nat} {I : Nat → Nat → Int32} {L : Nat → Nat → Int64} {R : Nat → Nat → Option Nat} {n s : Nat} {Q : Lo → Lm → Prop} {b : Nat} {h c : Nat} {kd : Int32} (hb : StK K R n b) (hh : h < 6) (hc : c < 25) {q : Nat} (hq : I (b + 10) 1 = nI q) (hq60 : q < 60) (kk : Q (.inl none) (K, cutM I b h c kd q, L, R, n, s)) : Ok (d + 2) 39 [.ref b, .int (nI h), .int (nI c), .int kd] (K, I, L, R, n, s) Q := by
  obtain ⟨k0, k1, k2, k3, k4, k5, k6, k7, k8, k9, k10, k11, r0, r1, r2, r3, r4, r5, r6, r7, r8, r9, r10, hbn⟩ := id hb
  refine Ok.enter (F := F_39) (ls := [.ref b, .int (nI h), .int (nI c), .int kd, lDead, lDead]) rfl rfl ?_
  refine wp_aload0 (pc' := 1) rfl rfl ?_
  refine wp_getRF (pc' := 4) rfl rfl (by assumption) (by assumption) rfl ?_
  refine wp_iload2 (pc' := 5) rfl rfl ?_
  refine wp_iald _ (pc' := 6) rfl (by assumption) (by with_reducible rfl) (by omega) (by first | decide | assumption | omega) rfl ?_
  refine wp_istore4 (pc' := 8) rfl (by first | rfl | assumption) rfl ?_
  refine wp_iload4 (pc' := 10) rfl rfl ?_
  refine wp_aload0 (pc' := 11) rfl rfl ?_
  refine wp_getRF (pc' := 14) rfl rfl (by assumption) (by assumption) rfl ?_
  refine wp_iload1 (pc' := 15) rfl rfl ?_
  refine wp_iald _ (pc' := 16) rfl (by assumption) (by with_reducible rfl) (by omega) (by first | decide | assumption | omega) rfl ?_
  first | refine wp_iaddN (pc' := 17) rfl (by with_reducible rfl) (by with_reducible rfl) rfl ?_ | refine wp_iadd (pc' := 17) rfl rfl ?_
  refine wp_istore5 (pc' := 19) rfl (by first | rfl | assumption) rfl ?_
  refine wp_aload0 (pc' := 20) rfl rfl ?_
  refine wp_getRF (pc' := 23) rfl rfl (by assumption) (by assumption) rfl ?_
  refine wp_iload2 (pc' := 24) rfl rfl ?_
  refine wp_iload5 (pc' := 26) rfl rfl ?_
  refine wp_ifle (pc' := 29) rfl rfl ?_ ?_
  · intro h26
    refine wp_iconst (v := nI 0) (pc' := 45) rfl rfl rfl ?_
    refine wp_iast _ (pc' := 46) rfl (by assumption) (by omega) (by with_reducible rfl) (by omega) (by first | decide | assumption | omega) rfl ?_
    refine wp_aload0 (pc' := 47) rfl rfl ?_
    refine wp_getRF (pc' := 50) rfl rfl (by assumption) (by assumption) rfl ?_
    refine wp_iload2 (pc' := 51) rfl rfl ?_
    refine wp_iconst (v := nI 0) (pc' := 52) rfl rfl rfl ?_
    refine wp_iast _ (pc' := 53) rfl (by assumption) (by omega) (by with_reducible rfl) (by omega) (by first | decide | assumption | omega) rfl ?_
    refine wp_aload0 (pc' := 54) rfl rfl ?_
    refine wp_getRF (pc' := 57) rfl rfl (by assumption) (by assumption) rfl ?_
    refine wp_iload2 (pc' := 58) rfl rfl ?_
    refine wp_iload5 (pc' := 60) rfl rfl ?_
    refine wp_iast _ (pc' := 61) rfl (by assumption) (by omega) (by with_reducible rfl) (by omega) (by first | decide | assumption | omega) rfl ?_
    refine wp_aload0 (pc' := 62) rfl rfl ?_
    refine wp_getRF (pc' := 65) rfl rfl (by assumption) (by assumption) rfl ?_
    refine wp_iload2 (pc' := 66) rfl rfl ?_
    refine wp_dup2 (pc' := 67) rfl rfl rfl rfl ?_
    refine wp_iald _ (pc' := 68) rfl (by assumption) (by with_reducible rfl) (by omega) (by first | decide | assumption | omega) rfl ?_
    simp +decide only [up2_o, up2_o0, up2_0o, up2_same, ↓reduceIte]
    refine wp_iconst (v := nI 1) (pc' := 69) rfl rfl rfl ?_
    first | refine wp_isubN (pc' := 70) rfl (by with_reducible rfl) (by with_reducible rfl) (by omega) rfl ?_ | refine wp_isub (pc' := 70) rfl rfl ?_
    refine wp_iast _ (pc' := 71) rfl (by assumption) (by omega) (by with_reducible rfl) (by omega) (by first | decide | assumption | omega) rfl ?_
    refine wp_aload0 (pc' := 72) rfl rfl ?_
    refine wp_getRF (pc' := 75) rfl rfl (by assumption) (by assumption) rfl ?_
    refine wp_aload0 (pc' := 76) rfl rfl ?_
    refine wp_getI (pc' := 79) rfl rfl (by assumption) rfl ?_
    simp +decide only [up2_o, up2_o0, up2_0o, up2_same, ↓reduceIte]
    refine wp_iload1 (pc' := 80) rfl rfl ?_
    refine wp_iload2 (pc' := 81) rfl rfl ?_
    refine wp_iload3 (pc' := 82) rfl rfl ?_
    refine wp_aload0 (pc' := 83) rfl rfl ?_
    refine wp_getRF (pc' := 86) rfl rfl (by assumption) (by assumption) rfl ?_
    refine wp_iload1 (pc' := 87) rfl rfl ?_
    refine wp_iald _ (pc' := 88) rfl (by assumption) (by with_reducible rfl) (by omega) (by first | decide | assumption | omega) rfl ?_
    simp +decide only [up2_o, up2_o0, up2_0o, up2_same, ↓reduceIte]
    refine wp_callV6 (pc' := 91) rfl rfl rfl rfl rfl (by assumption) rfl rfl ?_
    refine c_write hb (by first | exact hq | (simp +decide only [up2_o, up2_o0, up2_0o, up2_same, ↓reduceIte]; exact hq)) hq60 ?_
    refine Cont.u ?_
    refine wp_vret rfl rfl ?_
    exact Qu kk (mI1 (by first | rfl | (simp +decide only [cutM, *, ↓reduceIte]; done)))
  · intro h26
    refine wp_aload0 (pc' := 30) rfl rfl ?_
    refine wp_getRF (pc' := 33) rfl rfl (by assumption) (by assumption) rfl ?_
    refine wp_iload2 (pc' := 34) rfl rfl ?_
    refine wp_iald _ (pc' := 35) rfl (by assumption) (by with_reducible rfl) (by omega) (by first | decide | assumption | omega) rfl ?_
    refine wp_iload4 (pc' := 37) rfl rfl ?_
    first | refine wp_imulN (pc' := 38) rfl (by with_reducible rfl) (by with_reducible rfl) rfl ?_ | refine wp_imul (pc' := 38) rfl rfl ?_
    refine wp_iload5 (pc' := 40) rfl rfl ?_
    first | refine wp_idivN (pc' := 41) rfl (by with_reducible rfl) (by with_reducible rfl) (by omega) (by omega) (by omega) rfl ?_ | refine wp_idiv (pc' := 41) rfl (pos_ne h26) rfl ?_
    refine wp_goto rfl ?_
    refine wp_iast _ (pc' := 46) rfl (by assumption) (by omega) (by with_reducible rfl) (by omega) (by first | decide | assumption | omega) rfl ?_
    refine wp_aload0 (pc' := 47) rfl rfl ?_
    refine wp_getRF (pc' := 50) rfl rfl (by assumption) (by assumption) rfl ?_
    refine wp_iload2 (pc' := 51) rfl rfl ?_
    refine wp_iconst (v := nI 0) (pc' := 52) rfl rfl rfl ?_
    refine wp_iast _ (pc' := 53) rfl (by assumption) (by omega) (by with_reducible rfl) (by omega) (by first | decide | assumption | omega) rfl ?_
    refine wp_aload0 (pc' := 54) rfl rfl ?_
    refine wp_getRF (pc' := 57) rfl rfl (by assumption) (by assumption) rfl ?_
    refine wp_iload2 (pc' := 58) rfl rfl ?_
    refine wp_iload5 (pc' := 60) rfl rfl ?_
    refine wp_iast _ (pc' := 61) rfl (by assumption) (by omega) (by with_reducible rfl) (by omega) (by first | decide | assumption | omega) rfl ?_
    refine wp_aload0 (pc' := 62) rfl rfl ?_
    refine wp_getRF (pc' := 65) rfl rfl (by assumption) (by assumption) rfl ?_
    refine wp_iload2 (pc' := 66) rfl rfl ?_
    refine wp_dup2 (pc' := 67) rfl rfl rfl rfl ?_
    refine wp_iald _ (pc' := 68) rfl (by assumption) (by with_reducible rfl) (by omega) (by first | decide | assumption | omega) rfl ?_
    simp +decide only [up2_o, up2_o0, up2_0o, up2_same, ↓reduceIte]
    refine wp_iconst (v := nI 1) (pc' := 69) rfl rfl rfl ?_
    first | refine wp_isubN (pc' := 70) rfl (by with_reducible rfl) (by with_reducible rfl) (by omega) rfl ?_ | refine wp_isub (pc' := 70) rfl rfl ?_
    refine wp_iast _ (pc' := 71) rfl (by assumption) (by omega) (by with_reducible rfl) (by omega) (by first | decide | assumption | omega) rfl ?_
    refine wp_aload0 (pc' := 72) rfl rfl ?_
    refine wp_getRF (pc' := 75) rfl rfl (by assumption) (by assumption) rfl ?_
    refine wp_aload0 (pc' := 76) rfl rfl ?_
    refine wp_getI (pc' := 79) rfl rfl (by assumption) rfl ?_
    simp +decide only [up2_o, up2_o0, up2_0o, up2_same, ↓reduceIte]
    refine wp_iload1 (pc' := 80) rfl rfl ?_
    refine wp_iload2 (pc' := 81) rfl rfl ?_
    refine wp_iload3 (pc' := 82) rfl rfl ?_
    refine wp_aload0 (pc' := 83) rfl rfl ?_
    refine wp_getRF (pc' := 86) rfl rfl (by assumption) (by assumption) rfl ?_
    refine wp_iload1 (pc' := 87) rfl rfl ?_
    refine wp_iald _ (pc' := 88) rfl (by assumption) (by with_reducible rfl) (by omega) (by first | decide | assumption | omega) rfl ?_
    simp +decide only [up2_o, up2_o0, up2_0o, up2_same, ↓reduceIte]
    refine wp_callV6 (pc' := 91) rfl rfl rfl rfl rfl (by assumption) rfl rfl ?_
    refine c_write hb (by first | exact hq | (simp +decide only [up2_o, up2_o0, up2_0o, up2_same, ↓reduceIte]; exact hq)) hq60 ?_
    refine Cont.u ?_
    refine wp_vret rfl rfl ?_
    exact Qu kk (mI1 (by first | rfl | (simp +decide only [cutM, *, ↓reduceIte]; done)))
theorem c_addToStore {d : Nat} {K : Nat → Nat × Nat} {I : Nat → Nat → Int32} {L : Nat → Nat → Int64} {R : Nat → Nat → Option Nat} {n s : Nat} {Q : Lo → Lm → Prop} {b : Nat} {h : Nat} {x : Int32} (hb : StK K R n b) (hh : h < 6) (kk : Q (.inl none) (K, addM I b h x, L, R, n, s)) : Ok (d + 1) 134 [.ref b, .int (nI h), .int x] (K, I, L, R, n, s) Q := by
  obtain ⟨k0, k1, k2, k3, k4, k5, k6, k7, k8, k9, k10, k11, r0, r1, r2, r3, r4, r5, r6, r7, r8, r9, r10, hbn⟩ := id hb
  refine Ok.enter (F := F_134) (ls := [.ref b, .int (nI h), .int x]) rfl rfl ?_
  refine wp_aload0 (pc' := 1) rfl rfl ?_
  refine wp_getRF (pc' := 4) rfl rfl (by assumption) (by assumption) rfl ?_
  refine wp_iload1 (pc' := 5) rfl rfl ?_
  refine wp_aload0 (pc' := 6) rfl rfl ?_
  refine wp_getRF (pc' := 9) rfl rfl (by assumption) (by assumption) rfl ?_
  refine wp_iload1 (pc' := 10) rfl rfl ?_
  refine wp_iald _ (pc' := 11) rfl (by assumption) (by with_reducible rfl) (by omega) (by first | decide | assumption | omega) rfl ?_
  refine wp_iload2 (pc' := 12) rfl rfl ?_
  first | refine wp_iaddN (pc' := 13) rfl (by with_reducible rfl) (by with_reducible rfl) rfl ?_ | refine wp_iadd (pc' := 13) rfl rfl ?_
  refine wp_sipush (v := nI 999) (pc' := 16) rfl rfl rfl ?_
  refine wp_min (pc' := 19) rfl rfl rfl rfl ?_
  refine wp_iast _ (pc' := 20) rfl (by assumption) (by omega) (by with_reducible rfl) (by omega) (by first | decide | assumption | omega) rfl ?_
  refine wp_vret rfl rfl ?_
  exact kk
theorem c_cartHome {d : Nat} {K : Nat → Nat × Nat} {I : Nat → Nat → Int32} {L : Nat → Nat → Int64} {R : Nat → Nat → Option Nat} {n s : Nat} {Q : Lo → Lm → Prop} {b : Nat} {h c : Nat} (hb : StK K R n b) (hh : h < 6) (hc : c < 25) {q : Nat} (hq : I (b + 10) 1 = nI q) (hq60 : q < 60) (kk : Q (.inl none) (K, cartM I b h c q, L, R, n, s)) : Ok (d + 2) 133 [.ref b, .int (nI h), .int (nI c)] (K, I, L, R, n, s) Q := by
  obtain ⟨k0, k1, k2, k3, k4, k5, k6, k7, k8, k9, k10, k11, r0, r1, r2, r3, r4, r5, r6, r7, r8, r9, r10, hbn⟩ := id hb
  refine Ok.enter (F := F_133) (ls := [.ref b, .int (nI h), .int (nI c)]) rfl rfl ?_
  refine wp_aload0 (pc' := 1) rfl rfl ?_
  refine wp_getRF (pc' := 4) rfl rfl (by assumption) (by assumption) rfl ?_
  refine wp_aload0 (pc' := 5) rfl rfl ?_
  refine wp_getI (pc' := 8) rfl rfl (by assumption) rfl ?_
  refine wp_iload1 (pc' := 9) rfl rfl ?_
  refine wp_iload2 (pc' := 10) rfl rfl ?_
  refine wp_iconst (v := nI 2) (pc' := 11) rfl rfl rfl ?_
  refine wp_aload0 (pc' := 12) rfl rfl ?_
  refine wp_getRF (pc' := 15) rfl rfl (by assumption) (by assumption) rfl ?_
  refine wp_iload2 (pc' := 16) rfl rfl ?_
  refine wp_iald _ (pc' := 17) rfl (by assumption) (by with_reducible rfl) (by omega) (by first | decide | assumption | omega) rfl ?_
  refine wp_callV6 (pc' := 20) rfl rfl rfl rfl rfl (by assumption) rfl rfl ?_
  refine c_write hb (by first | exact hq | (simp +decide only [up2_o, up2_o0, up2_0o, up2_same, ↓reduceIte]; exact hq)) hq60 ?_
  refine Cont.u ?_
  refine wp_aload0 (pc' := 21) rfl rfl ?_
  refine wp_iload1 (pc' := 22) rfl rfl ?_
  refine wp_aload0 (pc' := 23) rfl rfl ?_
  refine wp_getRF (pc' := 26) rfl rfl (by assumption) (by assumption) rfl ?_
  refine wp_iload2 (pc' := 27) rfl rfl ?_
  refine wp_iald _ (pc' := 28) rfl (by assumption) (by with_reducible rfl) (by omega) (by first | decide | assumption | omega) rfl ?_
  rw [wrM_o (by decide) (by decide)]
  refine wp_callV3 (pc' := 31) rfl rfl rfl rfl rfl (by assumption) rfl rfl ?_
  refine c_addToStore hb (by omega) ?_
  refine Cont.u ?_
  refine wp_aload0 (pc' := 32) rfl rfl ?_
  refine wp_getRF (pc' := 35) rfl rfl (by assumption) (by assumption) rfl ?_
  refine wp_iload2 (pc' := 36) rfl rfl ?_
  refine wp_iconst (v := nI 0) (pc' := 37) rfl rfl rfl ?_
  refine wp_iast _ (pc' := 38) rfl (by assumption) (by omega) (by with_reducible rfl) (by omega) (by first | decide | assumption | omega) rfl ?_
  refine wp_aload0 (pc' := 39) rfl rfl ?_
  refine wp_getRF (pc' := 42) rfl rfl (by assumption) (by assumption) rfl ?_
  refine wp_iload2 (pc' := 43) rfl rfl ?_
  refine wp_iconst (v := nI 0) (pc' := 44) rfl rfl rfl ?_
  refine wp_iast _ (pc' := 45) rfl (by assumption) (by omega) (by with_reducible rfl) (by omega) (by first | decide | assumption | omega) rfl ?_
  refine wp_aload0 (pc' := 46) rfl rfl ?_
  refine wp_getRF (pc' := 49) rfl rfl (by assumption) (by assumption) rfl ?_
  refine wp_iload2 (pc' := 50) rfl rfl ?_
  refine wp_iconst (v := nI 0) (pc' := 51) rfl rfl rfl ?_
  refine wp_iast _ (pc' := 52) rfl (by assumption) (by omega) (by with_reducible rfl) (by omega) (by first | decide | assumption | omega) rfl ?_
  refine wp_vret rfl rfl ?_
  exact kk
theorem c_nextDraw {d : Nat} {K : Nat → Nat × Nat} {I : Nat → Nat → Int32} {L : Nat → Nat → Int64} {R : Nat → Nat → Option Nat} {n s : Nat} {Q : Lo → Lm → Prop} {b : Nat} (hb : StK K R n b) (kk : Q (.inl (some (.int (drawV (seedN (I b 16)))))) (K, up2 I b 16 (seedN (I b 16)), L, R, n, s)) : Ok (d + 1) 126 [.ref b] (K, I, L, R, n, s) Q := by
  obtain ⟨k0, k1, k2, k3, k4, k5, k6, k7, k8, k9, k10, k11, r0, r1, r2, r3, r4, r5, r6, r7, r8, r9, r10, hbn⟩ := id hb
  refine Ok.enter (F := F_126) (ls := [.ref b]) rfl rfl ?_
  refine wp_aload0 (pc' := 1) rfl rfl ?_
  refine wp_pool (v := .int (nI 1103515245)) (pc' := 3) rfl rfl rfl rfl rfl ?_
  refine wp_aload0 (pc' := 4) rfl rfl ?_
  refine wp_getI (pc' := 7) rfl rfl (by assumption) rfl ?_
  first | refine wp_imulN (pc' := 8) rfl (by with_reducible rfl) (by with_reducible rfl) rfl ?_ | refine wp_imul (pc' := 8) rfl rfl ?_
  refine wp_sipush (v := nI 12345) (pc' := 11) rfl rfl rfl ?_
  first | refine wp_iaddN (pc' := 12) rfl (by with_reducible rfl) (by with_reducible rfl) rfl ?_ | refine wp_iadd (pc' := 12) rfl rfl ?_
  refine wp_putI (pc' := 15) rfl rfl (by assumption) (by omega) rfl ?_
  refine wp_aload0 (pc' := 16) rfl rfl ?_
  refine wp_getI (pc' := 19) rfl rfl (by assumption) rfl ?_
  rw [up2_hit]
  refine wp_bipush (v := nI 16) (pc' := 21) rfl rfl rfl ?_
  refine wp_iushr (pc' := 22) rfl rfl ?_
  refine wp_sipush (v := nI 32767) (pc' := 25) rfl rfl rfl ?_
  refine wp_iand (pc' := 26) rfl rfl ?_
  refine wp_iret rfl rfl rfl ?_
  exact kk
theorem c_drawSky {d : Nat} {K : Nat → Nat × Nat} {I : Nat → Nat → Int32} {L : Nat → Nat → Int64} {R : Nat → Nat → Option Nat} {n s : Nat} {Q : Lo → Lm → Prop} {b : Nat} (hb : StK K R n b) (kk : Q (.inl none) (K, skyM I b, L, R, n, s)) : Ok (d + 2) 125 [.ref b] (K, I, L, R, n, s) Q := by
  obtain ⟨k0, k1, k2, k3, k4, k5, k6, k7, k8, k9, k10, k11, r0, r1, r2, r3, r4, r5, r6, r7, r8, r9, r10, hbn⟩ := id hb
  refine Ok.enter (F := F_125) (ls := [.ref b]) rfl rfl ?_
  refine wp_aload0 (pc' := 1) rfl rfl ?_
  refine wp_aload0 (pc' := 2) rfl rfl ?_
  refine wp_callV1 (pc' := 5) rfl rfl rfl rfl rfl (by assumption) rfl rfl ?_
  refine c_nextDraw hb ?_
  refine Cont.v ?_
  refine wp_bipush (v := nI 10) (pc' := 7) rfl rfl rfl ?_
  first | refine wp_iremN (pc' := 8) rfl (by with_reducible rfl) (by with_reducible rfl) (by omega) (by omega) (by omega) rfl ?_ | refine wp_irem (pc' := 8) rfl (by decide) rfl ?_
  refine wp_putI (pc' := 11) rfl rfl (by assumption) (by omega) rfl ?_
  refine wp_aload0 (pc' := 12) rfl rfl ?_
  refine wp_aload0 (pc' := 13) rfl rfl ?_
  refine wp_callV1 (pc' := 16) rfl rfl rfl rfl rfl (by assumption) rfl rfl ?_
  refine c_nextDraw hb ?_
  refine Cont.v ?_
  simp +decide only [up2_o, up2_o0, up2_0o, up2_same, ↓reduceIte]
  refine wp_bipush (v := nI 100) (pc' := 18) rfl rfl rfl ?_
  first | refine wp_iremN (pc' := 19) rfl (by with_reducible rfl) (by with_reducible rfl) (by omega) (by omega) (by omega) rfl ?_ | refine wp_irem (pc' := 19) rfl (by decide) rfl ?_
  refine wp_aload0 (pc' := 20) rfl rfl ?_
  refine wp_getI (pc' := 23) rfl rfl (by assumption) rfl ?_
  simp +decide only [up2_o, up2_o0, up2_0o, up2_same, ↓reduceIte]
  refine wp_icmpge (pc' := 26) rfl rfl ?_ ?_
  · intro h23
    refine wp_iconst (v := nI 0) (pc' := 31) rfl rfl rfl ?_
    refine wp_putZ (pc' := 34) rfl rfl (by assumption) (by omega) (by first | exact Or.inl rfl | exact Or.inr rfl) rfl ?_
    refine wp_vret rfl rfl ?_
    exact Qu kk (mI1 (by first | rfl | (simp +decide only [skyM, *, ↓reduceIte]; done)))
  · intro h23
    refine wp_iconst (v := nI 1) (pc' := 27) rfl rfl rfl ?_
    refine wp_goto rfl ?_
    refine wp_putZ (pc' := 34) rfl rfl (by assumption) (by omega) (by first | exact Or.inl rfl | exact Or.inr rfl) rfl ?_
    refine wp_vret rfl rfl ?_
    exact Qu kk (mI1 (by first | rfl | (simp +decide only [skyM, *, ↓reduceIte]; done)))
