/-! HEARTHS PUT TO CELLS: digits -/
def cd26 (h : Nat) : Nat := [11881376, 456976, 17576, 676, 26, 1].getD h 0
theorem cd_t {h : Nat} (hh : h < 6) : (cdV h).toInt = (cd26 h : Int) ∧ 26 * cd26 h ≤ 308915776 ∧ 1 ≤ cd26 h := by
  have : h = 0 ∨ h = 1 ∨ h = 2 ∨ h = 3 ∨ h = 4 ∨ h = 5 := by omega
  rcases this with rfl | rfl | rfl | rfl | rfl | rfl <;> decide
def vl26 (dg : Nat → Nat) : Nat := dg 0 * 11881376 + dg 1 * 456976 + dg 2 * 17576 + dg 3 * 676 + dg 4 * 26 + dg 5
theorem vq_b {dg : Nat → Nat} (h : ∀ j, dg j ≤ 25) : vl26 dg ≤ 308915775 := by
  unfold vl26
  have h0 := h 0
  have h1 := h 1
  have h2 := h 2
  have h3 := h 3
  have h4 := h 4
  have h5 := h 5
  omega
theorem vq_dg {dg : Nat → Nat} (h : ∀ j, dg j ≤ 25) {j : Nat} (hj : j < 6) : vl26 dg / cd26 j % 26 = dg j := by
  unfold vl26
  have h0 := h 0
  have h1 := h 1
  have h2 := h 2
  have h3 := h 3
  have h4 := h 4
  have h5 := h 5
  have : j = 0 ∨ j = 1 ∨ j = 2 ∨ j = 3 ∨ j = 4 ∨ j = 5 := by omega
  rcases this with rfl | rfl | rfl | rfl | rfl | rfl
  · show _ / 11881376 % 26 = _; omega
  · show _ / 456976 % 26 = _; omega
  · show _ / 17576 % 26 = _; omega
  · show _ / 676 % 26 = _; omega
  · show _ / 26 % 26 = _; omega
  · show _ / 1 % 26 = _; omega
theorem vq_lt {a : Nat → Nat} (ha : ∀ j, a j ≤ 25) {l : Nat} (hl : l < 6) (h : ∀ j, j ≤ l → a j = 0) : vl26 a < cd26 l := by
  unfold vl26
  have h0 := ha 0
  have h1 := ha 1
  have h2 := ha 2
  have h3 := ha 3
  have h4 := ha 4
  have h5 := ha 5
  have z0 := h 0 (by omega)
  have : l = 0 ∨ l = 1 ∨ l = 2 ∨ l = 3 ∨ l = 4 ∨ l = 5 := by omega
  rcases this with rfl | rfl | rfl | rfl | rfl | rfl
  · show _ < 11881376; omega
  · have z1 := h 1 (by omega); show _ < 456976; omega
  · have z1 := h 1 (by omega); have z2 := h 2 (by omega); show _ < 17576; omega
  · have z1 := h 1 (by omega); have z2 := h 2 (by omega); have z3 := h 3 (by omega); show _ < 676; omega
  · have z1 := h 1 (by omega); have z2 := h 2 (by omega); have z3 := h 3 (by omega); have z4 := h 4 (by omega); show _ < 26; omega
  · have z1 := h 1 (by omega); have z2 := h 2 (by omega); have z3 := h 3 (by omega); have z4 := h 4 (by omega); have z5 := h 5 (by omega); show _ < 1; omega
theorem vq_up {dg : Nat → Nat} {l v : Nat} (hl : l < 6) (h : dg l = 0) : vl26 (up1 dg l v) = vl26 dg + v * cd26 l := by
  unfold vl26
  have : l = 0 ∨ l = 1 ∨ l = 2 ∨ l = 3 ∨ l = 4 ∨ l = 5 := by omega
  rcases this with rfl | rfl | rfl | rfl | rfl | rfl
  · rw [up1_hit, up1_ne (by decide), up1_ne (by decide), up1_ne (by decide), up1_ne (by decide), up1_ne (by decide), h]; show _ = _ + v * 11881376; omega
  · rw [up1_hit, up1_ne (by decide), up1_ne (by decide), up1_ne (by decide), up1_ne (by decide), up1_ne (by decide), h]; show _ = _ + v * 456976; omega
  · rw [up1_hit, up1_ne (by decide), up1_ne (by decide), up1_ne (by decide), up1_ne (by decide), up1_ne (by decide), h]; show _ = _ + v * 17576; omega
  · rw [up1_hit, up1_ne (by decide), up1_ne (by decide), up1_ne (by decide), up1_ne (by decide), up1_ne (by decide), h]; show _ = _ + v * 676; omega
  · rw [up1_hit, up1_ne (by decide), up1_ne (by decide), up1_ne (by decide), up1_ne (by decide), up1_ne (by decide), h]; show _ = _ + v * 26; omega
  · rw [up1_hit, up1_ne (by decide), up1_ne (by decide), up1_ne (by decide), up1_ne (by decide), up1_ne (by decide), h]; show _ = _ + v * 1; omega
/-! hearth by hearth -/
def uW (dp : Nat → Nat) (h c : Nat) : Nat := dp c * 308915776 - (c + 1) * cd26 h
def grd (w : Nat → Int32) (dp : Nat → Nat) (h l : Nat) (x : Int32) : Nat := if moD w dp x 25 (clr l h) = moD w dp x 25 l then 0 else gCl w dp h l x + 1
def grx (w : Nat → Int32) (dp : Nat → Nat) (h l : Nat) (x : Int32) : Int32 := if moD w dp x 25 (clr l h) = moD w dp x 25 l then x else xcl x (gCl w dp h l x)
def grD (w : Nat → Int32) (dp : Nat → Nat) : Nat → Nat → Nat → Int32 → Nat → Nat
  | 0, _, _, _ => fun _ => 0
  | k + 1, h, l, x => up1 (grD w dp k (h + 1) (clr l h) (grx w dp h l x)) h (grd w dp h l x)
theorem gSt_e {w : Nat → Int32} {dp : Nat → Nat} {h : Nat} {p : Nat × Int32 × Int32} : gSt w dp h p = (clr p.1 h, grx w dp h p.1 p.2.1, nI (grd w dp h p.1 p.2.1) + (-1)) := by
  unfold gSt grx grd
  by_cases e : moD w dp p.2.1 25 (clr p.1 h) = moD w dp p.2.1 25 p.1
  · rw [if_pos e, if_pos e, if_pos e]; rfl
  · rw [if_neg e, if_neg e, if_neg e, k_m1]
theorem grD_z {w : Nat → Int32} {dp : Nat → Nat} : ∀ k h l x j, j < h → grD w dp k h l x j = 0
  | 0, _, _, _, _ => fun _ => rfl
  | k + 1, h, l, x, j => fun hj => by
    show up1 (grD w dp k (h + 1) (clr l h) (grx w dp h l x)) h (grd w dp h l x) j = 0
    rw [up1_ne (by omega)]
    exact grD_z k (h + 1) _ _ j (by omega)
theorem moU_z {u : Nat → Nat → Nat} {rt : Nat → Int32} {x : Int32} {l : Nat} (h : ∀ g, g < 6 → ¬ hasP (nI l) g) : ∀ r, moU u rt x r l = 0
  | 0 => rfl
  | r + 1 => Nat.le_zero.mp (moU_le.mpr ⟨Nat.le_of_eq (moU_z h r), fun _ g hg q => absurd q (h g hg)⟩)
theorem gr_main {w : Nat → Int32} {dp : Nat → Nat} : ∀ k h l x, h + k ≤ 6 → l < 64 → (∀ g, g < 6 → (hasP (nI l) g ↔ (h ≤ g ∧ g < h + k))) → (∀ c, c < 25 → hasP x c → 1 ≤ dp c) → moU (uW dp) (rtW w) x 25 l + vl26 (grD w dp k h l x) = moD w dp x 25 l * 308915776 ∧ ∀ j, grD w dp k h l x j ≤ 25
  | 0, h, l, x => fun hk hl hb hx => by
    have hz : ∀ g, g < 6 → ¬ hasP (nI l) g := fun g hg q => by have := (hb g hg).mp q; omega
    refine ⟨?_, fun j => Nat.zero_le _⟩
    rw [moU_z hz 25, show moD w dp x 25 l = 0 from moU_z hz 25, Nat.zero_mul]
    show 0 + vl26 (fun _ => 0) = 0
    decide
  | k + 1, h, l, x => fun hk hl hb hx => by
    have hh : h < 6 := by omega
    have hlh : hasP (nI l) h := (hb h hh).mpr ⟨Nat.le_refl _, by omega⟩
    have hl2 := clr_lt hl hh
    have hb2 : ∀ g, g < 6 → (hasP (nI (clr l h)) g ↔ (h + 1 ≤ g ∧ g < h + 1 + k)) := fun g hg => by
      rw [clr_hs hl hh hg, hb g hg]; omega
    have hE1 : ∀ b, (moD w dp x 25 l ≤ b ↔ moD w dp x 25 (clr l h) ≤ b ∧ ∀ c, 25 - 25 ≤ c → c < 25 → hasP x c → hasP (rtW w h) c → dp c + moD w dp (xcl x c) 25 (clr l h) ≤ b) := fun b => moU_E (u := fun _ c => dp c) (rt := rtW w) hh 25 (Nat.le_refl _) l x b hl hlh
    have hE2 : ∀ b, (moU (uW dp) (rtW w) x 25 l ≤ b ↔ moU (uW dp) (rtW w) x 25 (clr l h) ≤ b ∧ ∀ c, 25 - 25 ≤ c → c < 25 → hasP x c → hasP (rtW w h) c → uW dp h c + moU (uW dp) (rtW w) (xcl x c) 25 (clr l h) ≤ b) := fun b => moU_E (u := uW dp) (rt := rtW w) hh 25 (Nat.le_refl _) l x b hl hlh
    have e1 := (hE1 _).mp (Nat.le_refl _)
    have e2 := (hE2 _).mp (Nat.le_refl _)
    have hcd := (cd_t hh).2
    have hxx : ∀ c, c < 25 → ∀ e, e < 25 → hasP (xcl x c) e → 1 ≤ dp e := fun c hc e he q => hx e he ((has_xcl hc he).mp q).1
    obtain ⟨i0, j0⟩ := gr_main (w := w) (dp := dp) k (h + 1) (clr l h) x (by omega) hl2 hb2 hx
    have v0 := vq_lt j0 hh (fun j hj => grD_z k (h + 1) _ _ j (by omega))
    -- a cell
    have hc : ∀ c, c < 25 → hasP x c → ∃ v, v < cd26 h ∧ uW dp h c + moU (uW dp) (rtW w) (xcl x c) 25 (clr l h) + (v + (c + 1) * cd26 h) = (dp c + moD w dp (xcl x c) 25 (clr l h)) * 308915776 ∧ v = vl26 (grD w dp k (h + 1) (clr l h) (xcl x c)) := fun c hc hxc => by
      obtain ⟨i1, j1⟩ := gr_main (w := w) (dp := dp) k (h + 1) (clr l h) (xcl x c) (by omega) hl2 hb2 (hxx c hc)
      have v1 := vq_lt j1 hh (fun j hj => grD_z k (h + 1) _ _ j (by omega))
      refine ⟨_, v1, ?_, rfl⟩
      have d1 := hx c hc hxc
      have m1 : (c + 1) * cd26 h ≤ 25 * cd26 h := Nat.mul_le_mul_right _ (by omega)
      have hu : uW dp h c = dp c * 308915776 - (c + 1) * cd26 h := rfl
      generalize (c + 1) * cd26 h = y at *
      omega
    by_cases e : moD w dp x 25 (clr l h) = moD w dp x 25 l
    · have eg : grD w dp (k + 1) h l x = up1 (grD w dp k (h + 1) (clr l h) x) h 0 := by
        show up1 (grD w dp k (h + 1) (clr l h) (grx w dp h l x)) h (grd w dp h l x) = _
        unfold grx grd
        rw [if_pos e, if_pos e]
      rw [eg]
      refine ⟨?_, fun j => ?_⟩
      · rw [vq_up hh (grD_z k (h + 1) _ _ h (by omega)), Nat.zero_mul, Nat.add_zero, ← e, ← i0]
        congr 1
        refine Nat.le_antisymm ((hE2 _).mpr ⟨Nat.le_refl _, fun c _ hc1 hc2 hc3 => ?_⟩) e2.1
        obtain ⟨v, q1, q2, -⟩ := hc c hc1 hc2
        have q3 := e1.2 c (by omega) hc1 hc2 hc3
        have m1 : 1 * cd26 h ≤ (c + 1) * cd26 h := Nat.mul_le_mul_right _ (by omega)
        rw [e] at i0
        generalize (c + 1) * cd26 h = y at *
        omega
      · by_cases z : j = h
        · rw [z, up1_hit]; omega
        · rw [up1_ne z]; exact j0 j
    · obtain ⟨g1, g2, g3⟩ := g_ex hh hl hlh e
      have eg : grD w dp (k + 1) h l x = up1 (grD w dp k (h + 1) (clr l h) (xcl x (gCl w dp h l x))) h (gCl w dp h l x + 1) := by
        show up1 (grD w dp k (h + 1) (clr l h) (grx w dp h l x)) h (grd w dp h l x) = _
        unfold grx grd
        rw [if_neg e, if_neg e]
      rw [eg]
      generalize gCl w dp h l x = c0 at g1 g2 g3
      have g4 : hasP x c0 ∧ hasP (rtW w h) c0 := by
        have z := g2.1
        rw [hasP_bt (by omega), b_and] at z
        rw [hasP_bt (by omega), hasP_bt (by omega)]
        cases q1 : btI x c0
        · rw [q1] at z; cases z
        · cases q2 : btI (rtW w h) c0
          · rw [q1, q2] at z; cases z
          · exact ⟨rfl, rfl⟩
      obtain ⟨v, q1, q2, q3⟩ := hc c0 g1 g4.1
      obtain ⟨i1, j1⟩ := gr_main (w := w) (dp := dp) k (h + 1) (clr l h) (xcl x c0) (by omega) hl2 hb2 (hxx c0 g1)
      refine ⟨?_, fun j => ?_⟩
      · rw [vq_up hh (grD_z k (h + 1) _ _ h (by omega)), ← q3, ← g2.2, ← q2]
        congr 1
        have m0 : (c0 + 1) * cd26 h ≤ 25 * cd26 h := Nat.mul_le_mul_right _ (by omega)
        have hM := g2.2
        refine Nat.le_antisymm ((hE2 _).mpr ⟨?_, fun c _ hc1 hc2 hc3 => ?_⟩) (e2.2 c0 (by omega) g1 g4.1 g4.2)
        · have hlt : moD w dp x 25 (clr l h) < moD w dp x 25 l := by have := e1.1; omega
          generalize (c0 + 1) * cd26 h = y at *
          omega
        · obtain ⟨v2, r1, r2, -⟩ := hc c hc1 hc2
          have r3 := e1.2 c (by omega) hc1 hc2 hc3
          by_cases z : c = c0
          · rw [z]; exact Nat.le_refl _
          · by_cases z2 : dp c + moD w dp (xcl x c) 25 (clr l h) = moD w dp x 25 l
            · have z3 : c0 < c := by
                apply Classical.byContradiction
                intro q
                refine g3 c (by omega) ⟨?_, z2⟩
                rw [hasP_bt (by omega)] at hc2 hc3 ⊢
                rw [b_and, hc2, hc3]; rfl
              have m1 : (c0 + 1 + 1) * cd26 h ≤ (c + 1) * cd26 h := Nat.mul_le_mul_right _ (by omega)
              rw [Nat.succ_mul (c0 + 1)] at m1
              generalize (c0 + 1) * cd26 h = y at *
              generalize (c + 1) * cd26 h = y2 at *
              omega
            · generalize (c0 + 1) * cd26 h = y at *
              generalize (c + 1) * cd26 h = y2 at *
              omega
      · by_cases z : j = h
        · rw [z, up1_hit]; omega
        · rw [up1_ne z]; exact j1 j
theorem gr_gF {w : Nat → Int32} {dp : Nat → Nat} {H : Nat} {x : Int32} : ∀ i, i ≤ H → ∀ j, i ≤ j → grD w dp H 0 (2 ^ H - 1) x j = grD w dp (H - i) i (gF w dp H x i).1 (gF w dp H x i).2.1 j
  | 0 => fun _ _ _ => rfl
  | i + 1 => fun hi j hj => by
    rw [gr_gF i (by omega) j (by omega), show H - i = (H - (i + 1)) + 1 by omega, gF_s, gSt_e]
    show up1 (grD w dp (H - (i + 1)) (i + 1) _ _) i _ j = _
    rw [up1_ne (by omega)]
theorem gr_at {w : Nat → Int32} {dp : Nat → Nat} {H i : Nat} {x : Int32} (hi : i < H) : (gF w dp H x (i + 1)).2.2 = nI (grD w dp H 0 (2 ^ H - 1) x i) + (-1) := by
  rw [gr_gF i (by omega) i (Nat.le_refl _), show H - i = (H - (i + 1)) + 1 by omega, gF_s, gSt_e]
  show _ = nI (up1 (grD w dp (H - (i + 1)) (i + 1) _ _) i _ i) + (-1)
  rw [up1_hit]
/-! cell by cell: the class's row -/
def rs (H m : Nat) : Nat := (2 ^ H - 1) &&& (63 ^^^ m)
theorem rs_clr : ∀ H : Fin 7, ∀ m : Fin 64, ∀ h : Fin 6, clr (rs H.1 m.1) h.1 = rs H.1 (m.1 ||| 2 ^ h.1) := by decide +kernel
theorem rs_has : ∀ H : Fin 7, ∀ m : Fin 64, ∀ h : Fin 6, hasP (nI (rs H.1 m.1)) h.1 ↔ (h.1 < H.1 ∧ ¬ (m.1 ||| 2 ^ h.1) = m.1) := by decide +kernel
theorem rs_0 : ∀ H : Fin 7, rs H.1 0 = 2 ^ H.1 - 1 := by decide +kernel
theorem or_gt : ∀ m : Fin 64, ∀ h : Fin 6, ¬ (m.1 ||| 2 ^ h.1) = m.1 → m.1 < m.1 ||| 2 ^ h.1 := by decide +kernel
theorem or_l : ∀ m : Fin 64, ∀ h : Fin 6, m.1 ||| 2 ^ h.1 < 64 := by decide +kernel
def PlI (T : Nat) (M1 M0 : Nat → Nat) (H p : Nat) (G : Nat → Int64) : Prop := ∀ m, m < 64 → ((G m).toInt = -1 ∨ (0 ≤ (G m).toInt ∧ (G m).toInt + (M0 (rs H m) : Int) ≤ (T : Int))) ∧ (m < p → ¬ (G m).toInt = -1 → (G m).toInt + (M1 (rs H m) : Int) ≤ (T : Int))
def PlM (B G : Nat → Int64) : Prop := ∀ m, m < 64 → (B m).toInt ≤ (G m).toInt
/-- what one cell may give -/
def PlH (S : Mem) (u : Nat → Nat → Nat) (M1 M0 : Nat → Nat) (c : Nat) : Prop := ∀ l h, h < 6 → hasP (nI l) h → hasP (S 9 h) c → u h c + M0 (clr l h) ≤ M1 l
theorem gw_a {a b d e : Int64} {x z y : Nat} (h1 : a.toInt = (x : Int)) (h2 : (b * d).toInt = (z : Int)) (h3 : e.toInt = (y : Int)) (hx : x ≤ 69506049600) (hz : z ≤ 2780241984) (hy : y ≤ z) : (a + b * d - e).toInt = ((x + (z - y) : Nat) : Int) := by
  have r1 := t8_add h1 h2 (by omega) (by omega)
  have r2 := t8_sub r1 h3 (by omega) (by omega)
  rw [r2]
  omega
theorem t8_bd {z : Nat} (h : z ≤ 2780241984) : -4611686018427387904 ≤ (z : Int) ∧ (z : Int) < 4611686018427387904 := by omega
theorem gw_t {S : Mem} {dp : Nat → Nat} {c m h T : Nat} {G : Nat → Int64} (hd : S 1 c = nI (dp c) ∧ 1 ≤ dp c ∧ dp c ≤ 9) (hc : c < 25) (hh : h < 6) (h0 : 0 ≤ (G m).toInt) (hT : (G m).toInt ≤ (T : Int)) (hT2 : T ≤ 69506049600) : (gcW S c m h G).toInt = (G m).toInt + (uW dp h c : Int) := by
  have p1 := cd_t hh
  have m1 : (c + 1) * cd26 h ≤ 26 * cd26 h := Nat.mul_le_mul_right _ (by omega)
  have z1 : dp c * 308915776 ≤ 9 * 308915776 := Nat.mul_le_mul_right _ hd.2.2
  have z2 : 1 * 308915776 ≤ dp c * 308915776 := Nat.mul_le_mul_right _ hd.2.1
  have n1 : ((c + 1 : Nat) : Int) * (cd26 h : Int) = (((c + 1) * cd26 h : Nat) : Int) := (Int.natCast_mul _ _).symm
  have n2 : ((dp c : Nat) : Int) * ((308915776 : Nat) : Int) = ((dp c * 308915776 : Nat) : Int) := (Int.natCast_mul _ _).symm
  have m2 : (c + 1) * cd26 h ≤ 308915776 := Nat.le_trans m1 p1.2.1
  have m3 : dp c * 308915776 ≤ 2780241984 := z1
  have m4 : (c + 1) * cd26 h ≤ dp c * 308915776 := Nat.le_trans m2 (Nat.le_trans (Nat.le_of_eq (Nat.one_mul _).symm) z2)
  have q1 := t8_mul (t8_n (k := dp c) (by omega)) (show (308915776 : Int64).toInt = ((308915776 : Nat) : Int) by decide) (by rw [n2]; exact (t8_bd m3).1) (by rw [n2]; exact (t8_bd m3).2)
  have q2 := t8_mul (t8_n (k := c + 1) (by omega)) p1.1 (by rw [n1]; generalize (c + 1) * cd26 h = y at *; omega) (by rw [n1]; generalize (c + 1) * cd26 h = y at *; omega)
  rw [n1] at q2
  rw [n2] at q1
  have hx : (G m).toInt = (((G m).toInt.toNat : Nat) : Int) := (Int.toNat_of_nonneg h0).symm
  have r := gw_a hx q1 q2 (by omega) m3 m4
  unfold gcW
  rw [hd.1, r, Int.natCast_add, ← hx]
  rfl
theorem pl_s {S : Mem} {dp : Nat → Nat} {M1 M0 : Nat → Nat} {T H p c m h : Nat} {G : Nat → Int64} (hd : S 1 c = nI (dp c) ∧ 1 ≤ dp c ∧ dp c ≤ 9) (hc : c < 25) (hH : H ≤ 6) (hh : h < H) (hT2 : T ≤ 69506049600) (hM : PlH S (uW dp) M1 M0 c) (hI : PlI T M1 M0 H p G) (hm : m < 64) (hp : p ≤ m) (h0 : 0 ≤ (G m).toInt) (hle : (G m).toInt + (M1 (rs H m) : Int) ≤ (T : Int)) : PlI T M1 M0 H p (gcS S c m h G) ∧ PlM G (gcS S c m h G) ∧ (¬ (m ||| 2 ^ h) = m → hasP (S 9 h) c → (G m).toInt + (uW dp h c : Int) ≤ (gcS S c m h G (m ||| 2 ^ h)).toInt) := by
  unfold gcS
  by_cases e : (m ||| 2 ^ h) = m
  · rw [if_pos e]; exact ⟨hI, fun q _ => Int.le_refl _, fun q => absurd e q⟩
  · rw [if_neg e]
    by_cases e2 : hasP (S 9 h) c
    · rw [if_pos e2]
      have hg := or_gt ⟨m, hm⟩ ⟨h, by omega⟩ e
      have hl := or_l ⟨m, hm⟩ ⟨h, by omega⟩
      have hr := rs_clr ⟨H, by omega⟩ ⟨m, hm⟩ ⟨h, by omega⟩
      have hs := (rs_has ⟨H, by omega⟩ ⟨m, hm⟩ ⟨h, by omega⟩).mpr ⟨hh, e⟩
      dsimp only at hg hl hr hs
      have hv := gw_t (G := G) (m := m) (T := T) hd hc (show h < 6 by omega) h0 (by omega) hT2
      have hx := t8_max (x := G (m ||| 2 ^ h)) (y := gcW S c m h G) rfl hv
      have hq := hM (rs H m) h (by omega) hs e2
      rw [hr] at hq
      generalize m ||| 2 ^ h = t at *
      refine ⟨fun q hq2 => ?_, fun q hq2 => ?_, fun _ _ => ?_⟩
      · by_cases z : q = t
        · rw [z, up1_hit, hx]
          refine ⟨Or.inr ⟨by omega, ?_⟩, fun z2 => absurd z2 (by omega)⟩
          have z3 := (hI t hl).1
          by_cases z4 : (G t).toInt ≤ (G m).toInt + (uW dp h c : Int)
          · rw [Int.max_eq_right z4]; omega
          · rw [Int.max_eq_left (by omega)]; omega
        · rw [up1_ne z]; exact hI q hq2
      · by_cases z : q = t
        · rw [z, up1_hit, hx]; exact Int.le_max_left _ _
        · rw [up1_ne z]; exact Int.le_refl _
      · rw [up1_hit, hx]; exact Int.le_max_right _ _
    · rw [if_neg e2]; exact ⟨hI, fun q _ => Int.le_refl _, fun _ q => absurd q e2⟩
theorem pl_i {S : Mem} {dp : Nat → Nat} {M1 M0 : Nat → Nat} {T H p c m : Nat} {G : Nat → Int64} (hd : S 1 c = nI (dp c) ∧ 1 ≤ dp c ∧ dp c ≤ 9) (hc : c < 25) (hH : H ≤ 6) (hT2 : T ≤ 69506049600) (hM : PlH S (uW dp) M1 M0 c) (hI : PlI T M1 M0 H p G) (hm : m < 64) (hp : p ≤ m) (h0 : 0 ≤ (G m).toInt) (hle : (G m).toInt + (M1 (rs H m) : Int) ≤ (T : Int)) : ∀ i, i ≤ H → PlI T M1 M0 H p (gcI S c m G i) ∧ PlM G (gcI S c m G i) ∧ ∀ h, h < i → ¬ (m ||| 2 ^ h) = m → hasP (S 9 h) c → (G m).toInt + (uW dp h c : Int) ≤ (gcI S c m G i (m ||| 2 ^ h)).toInt
  | 0 => fun _ => ⟨hI, fun _ _ => Int.le_refl _, fun h hh => absurd hh (Nat.not_lt_zero _)⟩
  | i + 1 => fun hi => by
    obtain ⟨a1, a2, a3⟩ := pl_i (dp := dp) hd hc hH hT2 hM hI hm hp h0 hle i (by omega)
    have em : gcI S c m G i m = G m := gcI_m i
    obtain ⟨b1, b2, b3⟩ := pl_s (dp := dp) (h := i) (G := gcI S c m G i) hd hc hH (by omega) hT2 hM a1 hm hp (by rw [em]; exact h0) (by rw [em]; exact hle)
    refine ⟨b1, fun q hq => Int.le_trans (a2 q hq) (b2 q hq), fun h hh e1 e2 => ?_⟩
    by_cases z : h = i
    · subst z
      have := b3 e1 e2
      rw [em] at this
      exact this
    · exact Int.le_trans (a3 h (by omega) e1 e2) (b2 _ (or_l ⟨m, hm⟩ ⟨h, by omega⟩))
theorem m1_t {x : Int64} : x = -1 ↔ x.toInt = -1 := by
  rw [← Int64.toInt_inj]
  rw [show (-1 : Int64).toInt = -1 by decide]
theorem pl_o {S : Mem} {dp : Nat → Nat} {M1 M0 : Nat → Nat} {T H c : Nat} {B : Nat → Int64} (hd : S 1 c = nI (dp c) ∧ 1 ≤ dp c ∧ dp c ≤ 9) (hc : c < 25) (hH : H ≤ 6) (hT2 : T ≤ 69506049600) (hM : PlH S (uW dp) M1 M0 c) (hI : PlI T M1 M0 H 64 B) : ∀ j, j ≤ 64 → PlI T M1 M0 H (64 - j) (gcO S H c B j) ∧ PlM B (gcO S H c B j) ∧ ∀ m, m < 64 → 64 - j ≤ m → 0 ≤ (B m).toInt → ∀ h, h < H → ¬ (m ||| 2 ^ h) = m → hasP (S 9 h) c → (B m).toInt + (uW dp h c : Int) ≤ (gcO S H c B j (m ||| 2 ^ h)).toInt
  | 0 => fun _ => ⟨hI, fun _ _ => Int.le_refl _, fun m hm hm2 => absurd hm2 (by omega)⟩
  | j + 1 => fun hj => by
    obtain ⟨a1, a2, a3⟩ := pl_o (dp := dp) hd hc hH hT2 hM hI j (by omega)
    have hst : gcO S H c B (j + 1) = gcX S H c (63 - j) (gcO S H c B j) := rfl
    have hw : PlI T M1 M0 H (64 - (j + 1)) (gcO S H c B j) := fun m hm => ⟨(a1 m hm).1, fun q => (a1 m hm).2 (by omega)⟩
    rw [hst]
    unfold gcX
    by_cases e : gcO S H c B j (63 - j) = -1
    · rw [if_pos e]
      refine ⟨hw, a2, fun m hm hm2 q0 h hh e1 e2 => ?_⟩
      by_cases z : m = 63 - j
      · rw [m1_t, ← z] at e
        have := a2 m hm
        omega
      · exact a3 m hm (by omega) q0 h hh e1 e2
    · rw [if_neg e]
      rw [m1_t] at e
      have k1 := a1 (63 - j) (by omega)
      have k0 : 0 ≤ (gcO S H c B j (63 - j)).toInt := by
        rcases k1.1 with q | q
        · exact absurd q e
        · exact q.1
      obtain ⟨b1, b2, b3⟩ := pl_i (dp := dp) (m := 63 - j) hd hc hH hT2 hM hw (by omega) (by omega) k0 (k1.2 (by omega) e) H (Nat.le_refl _)
      refine ⟨b1, fun q hq => Int.le_trans (a2 q hq) (b2 q hq), fun m hm hm2 q0 h hh e1 e2 => ?_⟩
      by_cases z : m = 63 - j
      · subst z
        have z1 := b3 h hh e1 e2
        have z2 := a2 (63 - j) (by omega)
        omega
      · exact Int.le_trans (a3 m hm (by omega) q0 h hh e1 e2) (b2 _ (or_l ⟨m, hm⟩ ⟨h, by omega⟩))
def PlU (T : Nat) (M : Nat → Nat) (H : Nat) (B : Nat → Int64) : Prop := ∀ m, m < 64 → (B m).toInt = -1 ∨ (0 ≤ (B m).toInt ∧ (B m).toInt + (M (rs H m) : Int) ≤ (T : Int))
def PlL (T : Nat) (M : Nat → Nat) (H : Nat) (B : Nat → Int64) : Prop := ∃ m, m < 64 ∧ 0 ≤ (B m).toInt ∧ (T : Int) ≤ (B m).toInt + (M (rs H m) : Int)
theorem pl_c {S : Mem} {dp : Nat → Nat} {rt : Nat → Int32} {x : Int32} {T H c : Nat} {B : Nat → Int64} (hd : S 1 c = nI (dp c) ∧ dp c ≤ 9) (hrt : ∀ h, h < 6 → S 9 h = rt h) (hx : hasP x c ↔ openQ S c) (hc : c < 25) (hH : H ≤ 6) (hT2 : T ≤ 69506049600) (hU : PlU T (moU (uW dp) rt x (25 - c)) H B) (hL : PlL T (moU (uW dp) rt x (25 - c)) H B) : PlU T (moU (uW dp) rt x (24 - c)) H (plS S H c B) ∧ PlL T (moU (uW dp) rt x (24 - c)) H (plS S H c B) := by
  have hr : 25 - c = (24 - c) + 1 := by omega
  have hrc : 24 - (24 - c) = c := by omega
  rw [hr] at hU hL
  unfold plS
  by_cases ho : openQ S c
  · rw [if_pos ho]
    have hxc := hx.mpr ho
    have hle : ∀ l b, moU (uW dp) rt x (24 - c + 1) l ≤ b ↔ moU (uW dp) rt x (24 - c) l ≤ b ∧ (hasP x c → ∀ h, h < 6 → hasP (nI l) h → hasP (rt h) c → uW dp h c + moU (uW dp) rt x (24 - c) (clr l h) ≤ b) := fun l b => by
      have := moU_le (u := uW dp) (rt := rt) (x := x) (r := 24 - c) (l := l) (b := b)
      rw [hrc] at this
      exact this
    have hd1 : 1 ≤ dp c := by
      have h1 := ho.1
      rw [hd.1] at h1
      have := nI_lt_inv (by omega) (by omega) h1
      omega
    have hM : PlH S (uW dp) (moU (uW dp) rt x (24 - c + 1)) (moU (uW dp) rt x (24 - c)) c := fun l h hh q1 q2 => ((hle l _).mp (Nat.le_refl _)).2 hxc h hh q1 (by rw [← hrt h hh]; exact q2)
    have hI : PlI T (moU (uW dp) rt x (24 - c + 1)) (moU (uW dp) rt x (24 - c)) H 64 B := fun m hm => by
      refine ⟨?_, fun _ q => ?_⟩
      · rcases hU m hm with q | ⟨q1, q2⟩
        · exact Or.inl q
        · have := ((hle (rs H m) _).mp (Nat.le_refl _)).1
          exact Or.inr ⟨q1, by omega⟩
      · rcases hU m hm with q2 | q2
        · exact absurd q2 q
        · exact q2.2
    obtain ⟨a1, a2, a3⟩ := pl_o (dp := dp) ⟨hd.1, hd1, hd.2⟩ hc hH hT2 hM hI 64 (Nat.le_refl _)
    refine ⟨fun m hm => (a1 m hm).1, ?_⟩
    obtain ⟨m, hm, l1, l2⟩ := hL
    by_cases q : (T : Int) ≤ (B m).toInt + (moU (uW dp) rt x (24 - c) (rs H m) : Int)
    · have := a2 m hm
      exact ⟨m, hm, by omega, by omega⟩
    · have hex : ∃ h, h < 6 ∧ hasP (nI (rs H m)) h ∧ hasP (rt h) c ∧ (T : Int) ≤ (B m).toInt + ((uW dp h c + moU (uW dp) rt x (24 - c) (clr (rs H m) h) : Nat) : Int) := by
        apply Classical.byContradiction
        intro hn
        have := (hle (rs H m) ((T : Int) - 1 - (B m).toInt).toNat).mpr ⟨by omega, fun _ h hh q1 q2 => by
          apply Classical.byContradiction
          intro hn2
          exact hn ⟨h, hh, q1, q2, by omega⟩⟩
        omega
      obtain ⟨h, hh, q1, q2, q3⟩ := hex
      have q4 := (rs_has ⟨H, by omega⟩ ⟨m, hm⟩ ⟨h, hh⟩).mp q1
      have q5 := rs_clr ⟨H, by omega⟩ ⟨m, hm⟩ ⟨h, hh⟩
      have q6 := or_l ⟨m, hm⟩ ⟨h, hh⟩
      dsimp only at q4 q5 q6
      rw [q5] at q3
      have q7 := a3 m hm (by omega) l1 h q4.1 q4.2 (by rw [hrt h hh]; exact q2)
      exact ⟨_, q6, by omega, by omega⟩
  · rw [if_neg ho]
    have he : ∀ l, moU (uW dp) rt x (24 - c + 1) l = moU (uW dp) rt x (24 - c) l := fun l => by
      show moK (uW dp) rt x (moU (uW dp) rt x (24 - c)) (24 - (24 - c)) l 6 = _
      rw [hrc]
      exact moK_n (fun q => ho (hx.mp q))
    refine ⟨fun m hm => ?_, ?_⟩
    · rw [← he]; exact hU m hm
    · obtain ⟨m, hm, l1, l2⟩ := hL
      exact ⟨m, hm, l1, by rw [← he]; exact l2⟩
theorem pl_all {S : Mem} {dp : Nat → Nat} {rt : Nat → Int32} {x : Int32} {H : Nat} {g : Nat → Int64} (hd : ∀ c, c < 25 → S 1 c = nI (dp c) ∧ dp c ≤ 9) (hrt : ∀ h, h < 6 → S 9 h = rt h) (hx : ∀ c, c < 25 → (hasP x c ↔ openQ S c)) (hH : H ≤ 6) (hT2 : moU (uW dp) rt x 25 (2 ^ H - 1) ≤ 69506049600) : ∀ i, i ≤ 25 → PlU (moU (uW dp) rt x 25 (2 ^ H - 1)) (moU (uW dp) rt x (25 - i)) H (plB S H g i) ∧ PlL (moU (uW dp) rt x 25 (2 ^ H - 1)) (moU (uW dp) rt x (25 - i)) H (plB S H g i)
  | 0 => fun _ => by
    show PlU (moU (uW dp) rt x 25 (2 ^ H - 1)) (moU (uW dp) rt x 25) H (plB S H g 0) ∧ PlL (moU (uW dp) rt x 25 (2 ^ H - 1)) (moU (uW dp) rt x 25) H (plB S H g 0)
    have e0 : plB S H g 0 = up1 (fillL 64 (-1) g) 0 0 := rfl
    have r0 := rs_0 ⟨H, by omega⟩
    dsimp only at r0
    have z0 : (plB S H g 0 0).toInt = 0 := by rw [e0, up1_hit]; decide
    refine ⟨fun m hm => ?_, 0, by decide, by rw [z0]; exact Int.le_refl _, by rw [z0, r0]; omega⟩
    by_cases e : m = 0
    · rw [e, z0, r0]; exact Or.inr ⟨Int.le_refl _, by omega⟩
    · refine Or.inl ?_
      rw [e0, up1_ne e]
      unfold fillL
      rw [if_pos hm]; decide
  | i + 1 => fun hi => by
    obtain ⟨a1, a2⟩ := pl_all (g := g) hd hrt hx hH hT2 i (by omega)
    have := pl_c (c := i) (hd i (by omega)) hrt (hx i (by omega)) (by omega) hH hT2 a1 a2
    rw [show 25 - (i + 1) = 24 - i by omega]
    exact this
theorem mxL_t {B : Nat → Int64} {T : Nat} (h : ∀ m, m < 64 → (B m).toInt ≤ (T : Int)) : ∀ i, i ≤ 64 → 0 ≤ (mxL B i).toInt ∧ (mxL B i).toInt ≤ (T : Int) ∧ ∀ m, m < i → (B m).toInt ≤ (mxL B i).toInt
  | 0 => fun _ => ⟨by show 0 ≤ (0 : Int64).toInt; decide, by show (0 : Int64).toInt ≤ _; rw [show (0 : Int64).toInt = 0 by decide]; omega, fun m hm => absurd hm (Nat.not_lt_zero _)⟩
  | i + 1 => fun hi => by
    obtain ⟨a1, a2, a3⟩ := mxL_t h i (by omega)
    have e : (mxL B (i + 1)).toInt = max (mxL B i).toInt (B i).toInt := t8_max rfl rfl
    have hb := h i (by omega)
    rw [e]
    refine ⟨by omega, by omega, fun m hm => ?_⟩
    by_cases z : m = i
    · rw [z]; exact Int.le_max_right _ _
    · exact Int.le_trans (a3 m (by omega)) (Int.le_max_left _ _)
theorem opn_bt {S : Mem} : ∀ i, i ≤ 25 → ∀ c, c < 25 → btI (forN (fun c f => if openQ S c then f ||| jshl (nI 1) (nI c) else f) (nI 0) i) c = decide (c < i ∧ openQ S c)
  | 0 => fun _ c _ => by
    show btI (nI 0) c = _
    rw [bt_n0]; exact (decide_eq_false (fun q => absurd q.1 (Nat.not_lt_zero _))).symm
  | i + 1 => fun hi c hc => by
    have ih := opn_bt (S := S) i (by omega) c hc
    show btI (if openQ S i then forN _ (nI 0) i ||| jshl (nI 1) (nI i) else forN _ (nI 0) i) c = _
    by_cases e : openQ S i
    · rw [if_pos e, b_or, ih, bt_s1 i (by omega) c (by omega), ← Bool.decide_or]
      refine decide_eq_decide.mpr ⟨?_, ?_⟩
      · rintro (⟨q1, q2⟩ | q)
        · exact ⟨by omega, q2⟩
        · rw [q]; exact ⟨by omega, e⟩
      · rintro ⟨q1, q2⟩
        by_cases z : c = i
        · exact Or.inr z
        · exact Or.inl ⟨by omega, q2⟩
    · rw [if_neg e, ih]
      refine decide_eq_decide.mpr ⟨?_, ?_⟩
      · rintro ⟨q1, q2⟩; exact ⟨by omega, q2⟩
      · rintro ⟨q1, q2⟩
        have : ¬ c = i := fun z => e (z ▸ q2)
        exact ⟨by omega, q2⟩
theorem opn_has {S : Mem} {c : Nat} (hc : c < 25) : hasP (openS S) c ↔ openQ S c := by
  rw [hasP_bt (by omega)]
  unfold openS
  rw [opn_bt 25 (Nat.le_refl _) c hc, decide_eq_true_iff]
  exact ⟨fun q => q.2, fun q => ⟨hc, q⟩⟩
theorem pl_sum {x : Int64} {p v : Nat} (h : x.toInt = (p : Int) * 308915776 - (v : Int)) (hp : p ≤ 225) (hv : v ≤ 308915775) : (plSum x).toInt = (p : Int) := by
  have a1 := t8_add h (show (308915776 : Int64).toInt = 308915776 by decide) (by omega) (by omega)
  have a2 := t8_sub a1 (show (1 : Int64).toInt = 1 by decide) (by omega) (by omega)
  have a3 : (x + 308915776 - 1).toInt = ((p * 308915776 + (308915775 - v) : Nat) : Int) := by rw [a2]; omega
  have a4 := t8_div a3 (show (308915776 : Int64).toInt = ((308915776 : Nat) : Int) by decide) (by omega)
  unfold plSum
  rw [a4]
  omega
theorem pl_v {x : Int64} {p h : Nat} {dg : Nat → Nat} (hx : x.toInt = (p : Int) * 308915776 - (vl26 dg : Int)) (hp : p ≤ 225) (hd : ∀ j, dg j ≤ 25) (hh : h < 6) : plV x h = nI (dg h) + (-1) := by
  have hv := vq_b hd
  have a1 := pl_sum hx hp hv
  have a2 := t8_mul a1 (show (308915776 : Int64).toInt = 308915776 by decide) (by omega) (by omega)
  have a3 := t8_sub a2 hx (by omega) (by omega)
  have a4 : (plSum x * 308915776 - x).toInt = (vl26 dg : Int) := by rw [a3]; omega
  have a5 := t8_div a4 (cd_t hh).1 (by omega)
  have hle : vl26 dg / cd26 h ≤ vl26 dg := Nat.div_le_self _ _
  have a6 := t8_rem a5 (show (26 : Int64).toInt = ((26 : Nat) : Int) by decide) (by omega)
  rw [vq_dg hd hh] at a6
  unfold plV
  rw [t8_32 a6]
  exact Int32.sub_eq_add_neg _ _
theorem pl_top {S : Mem} {w : Nat → Int32} {dp : Nat → Nat} {H : Nat} {g : Nat → Int64} (hdp : DpW w dp) (hd : ∀ c, c < 25 → S 1 c = w (9 + 6 * c + 0)) (hrt : ∀ h, h < 6 → S 9 h = w (159 + 4 * h + 3)) (hH : H ≤ 6) : (plSum (mxL (plB S H g 25) 64)).toInt32 = nI (moD w dp (openS S) 25 (2 ^ H - 1)) ∧ ∀ h, h < H → plV (mxL (plB S H g 25) 64) h = (gF w dp H (openS S) (h + 1)).2.2 := by
  have hd2 : ∀ c, c < 25 → S 1 c = nI (dp c) ∧ dp c ≤ 9 := fun c hc => ⟨(hd c hc).trans (hdp c hc).1, (hdp c hc).2⟩
  have hx1 : ∀ c, c < 25 → hasP (openS S) c → 1 ≤ dp c := fun c hc q => by
    have h1 := ((opn_has hc).mp q).1
    rw [(hd2 c hc).1] at h1
    have h2 := (hd2 c hc).2
    have := nI_lt_inv (by omega) (by omega) h1
    omega
  have hs := shl7 ⟨H, by omega⟩
  dsimp only at hs
  have hbt : ∀ H : Fin 7, ∀ h : Fin 6, hasP (nI (2 ^ H.1 - 1)) h.1 ↔ (0 ≤ h.1 ∧ h.1 < 0 + H.1) := by decide +kernel
  obtain ⟨g1, g2⟩ := gr_main (w := w) (dp := dp) H 0 (2 ^ H - 1) (openS S) (by omega) (by omega) (fun g hg => hbt ⟨H, by omega⟩ ⟨g, hg⟩) hx1
  have hub : ∀ h c, c < 25 → uW dp h c ≤ 9 * 308915776 := fun h c hc => by
    have := (hdp c hc).2
    have hu : uW dp h c = dp c * 308915776 - (c + 1) * cd26 h := rfl
    generalize (c + 1) * cd26 h = y at *
    omega
  have hT : moU (uW dp) (rtW w) (openS S) 25 (2 ^ H - 1) ≤ 69506049600 := Nat.le_trans (moU_b (rt := rtW w) (x := openS S) hub 25 (Nat.le_refl _) (2 ^ H - 1)) (by decide)
  obtain ⟨a1, m, hm, b1, b2⟩ := pl_all (g := g) (rt := rtW w) hd2 hrt (fun c hc => opn_has hc) hH hT 25 (Nat.le_refl _)
  have ha : ∀ m, m < 64 → (plB S H g 25 m).toInt ≤ (moU (uW dp) (rtW w) (openS S) 25 (2 ^ H - 1) : Int) := fun m hm => by
    rcases a1 m hm with q | q <;> omega
  obtain ⟨c1, c2, c3⟩ := mxL_t ha 64 (Nat.le_refl _)
  have c4 := c3 m hm
  have b3 : (moU (uW dp) (rtW w) (openS S) 25 (2 ^ H - 1) : Int) ≤ (plB S H g 25 m).toInt + ((0 : Nat) : Int) := b2
  have hM : moD w dp (openS S) 25 (2 ^ H - 1) ≤ 225 := dp_b hdp 25 (Nat.le_refl _) (openS S) _
  have hX : (mxL (plB S H g 25) 64).toInt = (moD w dp (openS S) 25 (2 ^ H - 1) : Int) * 308915776 - (vl26 (grD w dp H 0 (2 ^ H - 1) (openS S)) : Int) := by omega
  refine ⟨t8_32 (pl_sum hX hM (vq_b g2)), fun h hh => ?_⟩
  rw [pl_v hX hM g2 (by omega), gr_at hh]
