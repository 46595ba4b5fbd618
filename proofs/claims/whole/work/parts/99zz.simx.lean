/-! PAIRS: which day to ask for -/
def psN (M : Mem) (l : Nat) : Nat → Int32
  | 0 => M 0 l
  | e + 1 => psN M l e + M (e + 1) l
theorem ps_up {M : Mem} {e0 l0 l : Nat} {y : Int32} : ∀ e, psN (up2 M e0 l0 (M e0 l0 + y)) l e = psN M l e + (if e0 ≤ e ∧ l = l0 then y else nI 0)
  | 0 => by
    show up2 M e0 l0 (M e0 l0 + y) 0 l = M 0 l + _
    by_cases q : e0 ≤ 0 ∧ l = l0
    · obtain ⟨q1, rfl⟩ := q
      obtain rfl : e0 = 0 := by omega
      rw [up2_hit, if_pos ⟨Nat.le_refl _, rfl⟩]
    · rw [if_neg q, add_0, up2_off (fun z => q ⟨by omega, z.2⟩)]
  | e + 1 => by
    show psN (up2 M e0 l0 (M e0 l0 + y)) l e + up2 M e0 l0 (M e0 l0 + y) (e + 1) l = psN M l e + M (e + 1) l + _
    rw [ps_up e]
    by_cases ql : l = l0
    · subst ql
      by_cases q : e0 = e + 1
      · subst q
        rw [up2_hit, if_neg (fun z => by omega), if_pos ⟨Nat.le_refl _, rfl⟩, add_0, Int32.add_assoc]
      · rw [up2_off (fun z => q z.1.symm)]
        by_cases z : e0 ≤ e
        · rw [if_pos ⟨z, rfl⟩, if_pos ⟨by omega, rfl⟩, Int32.add_assoc, Int32.add_comm y, ← Int32.add_assoc]
        · rw [if_neg (fun w => z w.1), if_neg (fun w => by omega), add_0, add_0]
    · rw [up2_off (fun z => ql z.2), if_neg (fun z => ql z.2), if_neg (fun z => ql z.2), add_0, add_0]
def inD (p : Prop) [Decidable p] : Int32 := if p then nI 1 else nI 0
theorem in_01 {p : Prop} [Decidable p] : inD p = nI 0 ∨ inD p = nI 1 := by
  unfold inD; split
  · exact Or.inr rfl
  · exact Or.inl rfl
theorem in_3 {a b c : Int32} (ha : a = nI 0 ∨ a = nI 1) (hb : b = nI 0 ∨ b = nI 1) (hc : c = nI 0 ∨ c = nI 1) : (a - b) + (c - a) = c - b := by
  rcases ha with rfl | rfl <;> rcases hb with rfl | rfl <;> rcases hc with rfl | rfl <;> decide
theorem in_cg {p q : Prop} [Decidable p] [Decidable q] (h : p ↔ q) : inD p = inD q := if_cg h
theorem in_self {p : Prop} [Decidable p] : inD p - inD p = nI 0 := by rcases in_01 (p := p) with e | e <;> rw [e] <;> decide
theorem sub_1 (x : Int32) : x - nI 1 = x + (-1) := by rw [Int32.sub_eq_add_neg]; rfl
theorem in_2 {l v : Nat} : (if l = v then nI 1 else nI 0) + (if l = v + 1 then -1 else nI 0) = inD (l = v) - inD (l = v + 1) := by
  unfold inD
  by_cases e : l = v
  · rw [if_pos e, if_neg (show ¬ l = v + 1 by omega), if_neg (show ¬ l = v + 1 by omega)]; decide
  · rw [if_neg e]
    by_cases z : l = v + 1
    · rw [if_pos z, if_pos z]; decide
    · rw [if_neg z, if_neg z]; decide
/-- a level falls, day by day: what the changes add up to -/
theorem ncl_ps {lo p : Nat} (hp : 1 ≤ p) : ∀ v e0 M l e, lo ≤ v → e < 100 → psN (ncL lo p v e0 M) l e = psN M l e + (if e0 ≤ e then inD (l = max lo (v - ((e - e0) / p + 1))) - inD (l = v) else nI 0)
  | 0 => fun e0 M l e hlo he => by
    show psN M l e = _
    split
    · have ht : ∀ t, max lo (0 - (t + 1)) = 0 := fun t => by omega
      rw [ht, in_self, add_0]
    · rw [add_0]
  | v + 1 => fun e0 M l e hlo he => by
    unfold ncL
    by_cases c : e0 < 100 ∧ lo < v + 1
    · rw [if_pos c, ncl_ps hp v (e0 + p) _ l e (by omega) he, ps_up, sub_1, ps_up, Int32.add_assoc (psN M l e)]
      by_cases q : e0 ≤ e
      · have h1 : (if e0 ≤ e ∧ l = v + 1 then (-1 : Int32) else nI 0) + (if e0 ≤ e ∧ l = v then nI 1 else nI 0) = inD (l = v) - inD (l = v + 1) := by
          rw [← in_2, Int32.add_comm, if_cg (show (e0 ≤ e ∧ l = v) ↔ l = v from ⟨fun z => z.2, fun z => ⟨q, z⟩⟩), if_cg (show (e0 ≤ e ∧ l = v + 1) ↔ l = v + 1 from ⟨fun z => z.2, fun z => ⟨q, z⟩⟩)]
        rw [h1, if_pos q]
        by_cases z : e0 + p ≤ e
        · rw [if_pos z, Int32.add_assoc, in_3 in_01 in_01 in_01]
          have hd : (e - e0) / p = (e - (e0 + p)) / p + 1 := by
            rw [show e - e0 = e - (e0 + p) + p by omega, Nat.add_div_right _ (by omega)]
          rw [hd, show v + 1 - ((e - (e0 + p)) / p + 1 + 1) = v - ((e - (e0 + p)) / p + 1) by omega]
        · rw [if_neg z, add_0, show (e - e0) / p = 0 from Nat.div_eq_of_lt (by omega), show max lo (v + 1 - (0 + 1)) = v by omega]
      · rw [if_neg (show ¬ (e0 ≤ e ∧ l = v + 1) from fun z => q z.1), if_neg (show ¬ (e0 ≤ e ∧ l = v) from fun z => q z.1), if_neg (show ¬ e0 + p ≤ e by omega), if_neg q, add_0, add_0]
    · rw [if_neg c]
      by_cases q : e0 ≤ e
      · have ht : ∀ t, max lo (v + 1 - (t + 1)) = v + 1 := fun t => by omega
        rw [if_pos q, ht, in_self, add_0]
      · rw [if_neg q, add_0]
theorem ncn_ps {k l e : Nat} {N : Mem} (he : e < 100) : psN (ncN k N) l e = psN N l e + inD (l = wbN k e) := by
  unfold ncN
  have hp : 1 ≤ k / 10 % 20 + 1 := by omega
  rw [ncl_ps hp _ _ _ l e (Nat.min_le_right _ _) he, ps_up, Int32.add_assoc]
  congr 1
  have h0 : (if 0 ≤ e ∧ l = k / 200 then nI 1 else nI 0) = inD (l = k / 200) := if_cg ⟨fun z => z.2, fun z => ⟨Nat.zero_le _, z⟩⟩
  rw [h0]
  by_cases q : k / 10 % 20 + 1 ≤ e
  · rw [if_pos q]
    have hd : e / (k / 10 % 20 + 1) = (e - (k / 10 % 20 + 1)) / (k / 10 % 20 + 1) + 1 := by
      have := Nat.add_div_right (e - (k / 10 % 20 + 1)) (z := k / 10 % 20 + 1) (by omega)
      rw [← this, show e - (k / 10 % 20 + 1) + (k / 10 % 20 + 1) = e by omega]
    rw [← hd]
    have hl : max (min (k % 10) (k / 200)) (k / 200 - e / (k / 10 % 20 + 1)) = wbN k e := by unfold wbN; rw [Nat.min_comm]
    rw [hl]
    rcases in_01 (p := l = k / 200) with a | a <;> rcases in_01 (p := l = wbN k e) with b | b <;> rw [a, b] <;> decide
  · rw [if_neg q, add_0]
    have hl : wbN k e = k / 200 := by
      unfold wbN
      rw [show e / (k / 10 % 20 + 1) = 0 from Nat.div_eq_of_lt (by omega)]
      have := Nat.min_le_left (k / 200) (k % 10)
      omega
    rw [hl]
theorem bd_ps {tv : Nat → Nat} {r : Nat} {N : Mem} (hz : ∀ e l, e < 100 → l < 10 → N e l = nI 0) : ∀ i, (bdF tv r N i).2 = cnP (fun k => fitB tv k r = true) i ∧ ∀ e l, e < 100 → l < 10 → psN (bdF tv r N i).1 l e = nI (cnL (fun k => fitB tv k r) (fun k => wbN k e) l i)
  | 0 => ⟨rfl, fun e l he hl => by
    show psN N l e = nI 0
    have : ∀ e, e < 100 → psN N l e = nI 0 := by
      intro e
      induction e with
      | zero => intro he; exact hz 0 l he hl
      | succ e ih => intro he; show psN N l e + N (e + 1) l = nI 0; rw [ih (by omega), hz (e + 1) l he hl, add_0]
    exact this e he⟩
  | i + 1 => by
    obtain ⟨i1, i2⟩ := bd_ps (tv := tv) (r := r) hz i
    have hst : bdF tv r N (i + 1) = bdS tv r i (bdF tv r N i) := rfl
    rw [hst]
    unfold bdS
    show _ = cnP (fun k => fitB tv k r = true) i + (if fitB tv i r = true then nI 1 else nI 0) ∧ _
    by_cases q : fitB tv i r = true
    · rw [if_pos q, if_pos q]
      refine ⟨by show (bdF tv r N i).2 + nI 1 = _; rw [i1], fun e l he hl => ?_⟩
      show psN (ncN i (bdF tv r N i).1) l e = _
      rw [ncn_ps he, i2 e l he hl, cnL_s]
      unfold inD
      by_cases z : l = wbN i e
      · rw [if_pos z, if_pos ⟨q, z.symm⟩, nI_add]
      · rw [if_neg z, if_neg (fun w => z w.2.symm), add_0, Nat.add_zero]
    · rw [if_neg q, if_neg q, add_0]
      refine ⟨i1, fun e l he hl => ?_⟩
      rw [i2 e l he hl, cnL_s, if_neg (fun w => q w.1), Nat.add_zero]
theorem mx_sp {p : Nat → Bool} {f : Nat → Nat} (hf : ∀ i, i < 2000 → f i < 10) : ∀ i, i ≤ 2000 → (∀ l, l < 10 → cnL p f l i ≤ mxP p f i) ∧ (mxP p f i = 0 ∨ ∃ l, l < 10 ∧ mxP p f i = cnL p f l i)
  | 0 => fun _ => ⟨fun _ _ => Nat.le_refl _, Or.inl rfl⟩
  | i + 1 => fun hi => by
    obtain ⟨i1, i2⟩ := mx_sp (p := p) hf i (by omega)
    have hfi := hf i (by omega)
    rw [mxP_s]
    by_cases q : p i = true
    · rw [if_pos q]
      have hs : cnL p f (f i) (i + 1) = cnL p f (f i) i + 1 := by rw [cnL_s, if_pos ⟨q, rfl⟩]
      have ho : ∀ l, ¬ l = f i → cnL p f l (i + 1) = cnL p f l i := fun l hl => by rw [cnL_s, if_neg (fun w => hl w.2.symm), Nat.add_zero]
      refine ⟨fun l hl => ?_, ?_⟩
      · by_cases z : l = f i
        · rw [z]; omega
        · rw [ho l z]; have := i1 l hl; omega
      · by_cases z : mxP p f i ≤ cnL p f (f i) (i + 1)
        · exact Or.inr ⟨f i, hfi, by omega⟩
        · rcases i2 with e | ⟨l, l1, l2⟩
          · omega
          · by_cases y : l = f i
            · rw [y] at l2; omega
            · exact Or.inr ⟨l, l1, by rw [ho l y]; omega⟩
    · rw [if_neg q]
      have ho : ∀ l, cnL p f l (i + 1) = cnL p f l i := fun l => by rw [cnL_s, if_neg (fun w => q w.1), Nat.add_zero]
      refine ⟨fun l hl => by rw [ho l]; exact i1 l hl, i2.imp id (fun ⟨l, l1, l2⟩ => ⟨l, l1, by rw [ho l]; exact l2⟩)⟩
theorem lg_I {N : Mem} {e : Nat} {P : Nat → Int32} {C : Nat → Nat} (hC : ∀ l, l < 10 → P l + N e l = nI (C l) ∧ C l ≤ 2000) : ∀ i, i ≤ 10 → (∀ l, (lgI N e P i).1 l = if l < i then P l + N e l else P l) ∧ ∃ m, (lgI N e P i).2 = nI m ∧ m ≤ 2000 ∧ (∀ l, l < i → C l ≤ m) ∧ (m = 0 ∨ ∃ l, l < i ∧ m = C l)
  | 0 => fun _ => ⟨fun l => by rw [if_neg (by omega)]; rfl, 0, rfl, by decide, fun l hl => absurd hl (by omega), Or.inl rfl⟩
  | i + 1 => fun hi => by
    obtain ⟨i1, m, m1, m2, m3, m4⟩ := lg_I hC i (by omega)
    have hi1 : (lgI N e P i).1 i = P i := by rw [i1 i, if_neg (by omega)]
    have hst : lgI N e P (i + 1) = (up1 (lgI N e P i).1 i ((lgI N e P i).1 i + N e i), jmax (lgI N e P i).2 ((lgI N e P i).1 i + N e i)) := rfl
    rw [hst, hi1]
    obtain ⟨c1, c2⟩ := hC i (by omega)
    refine ⟨fun l => ?_, max m (C i), ?_, by omega, fun l hl => ?_, ?_⟩
    · show up1 (lgI N e P i).1 i (P i + N e i) l = _
      by_cases z : l = i
      · rw [z, up1_hit, if_pos (by omega)]
      · rw [up1_ne z, i1 l]
        by_cases y : l < i
        · rw [if_pos y, if_pos (by omega)]
        · rw [if_neg y, if_neg (by omega)]
    · show jmax (lgI N e P i).2 (P i + N e i) = _
      rw [m1, c1, nI_max (by omega) (by omega)]
    · by_cases z : l = i
      · rw [z]; omega
      · have := m3 l (by omega); omega
    · by_cases z : m ≤ C i
      · exact Or.inr ⟨i, by omega, by omega⟩
      · rw [Nat.max_eq_left (by omega)]
        exact m4.imp id (fun ⟨l, l1, l2⟩ => ⟨l, by omega, l2⟩)
theorem lg_F {tv : Nat → Nat} {r : Nat} {N : Mem} {P : Nat → Int32} (hP : ∀ l, l < 10 → P l = nI 0) (hN : ∀ e l, e < 100 → l < 10 → psN N l e = nI (cnL (fun k => fitB tv k r) (fun k => wbN k e) l 2000)) : ∀ i, i ≤ 100 → (∀ l, l < 10 → (lgF N P i).1 l = if i = 0 then nI 0 else psN N l (i - 1)) ∧ (lgF N P i).2.1 = (lkG (fun e => nI (mxP (fun k => fitB tv k r) (fun k => wbN k e) 2000)) (nI 2001) i).2 ∧ (lgF N P i).2.2 = (lkG (fun e => nI (mxP (fun k => fitB tv k r) (fun k => wbN k e) 2000)) (nI 2001) i).1
  | 0 => fun _ => ⟨fun l hl => by rw [if_pos rfl]; exact hP l hl, rfl, rfl⟩
  | i + 1 => fun hi => by
    obtain ⟨i1, i2, i3⟩ := lg_F hP hN i (by omega)
    have hst : lgF N P (i + 1) = lgS N i (lgF N P i) := rfl
    have hC : ∀ l, l < 10 → (lgF N P i).1 l + N i l = nI (cnL (fun k => fitB tv k r) (fun k => wbN k i) l 2000) ∧ cnL (fun k => fitB tv k r) (fun k => wbN k i) l 2000 ≤ 2000 := fun l hl => by
      refine ⟨?_, cnL_le 2000⟩
      rw [← hN i l (by omega) hl, i1 l hl]
      cases i with
      | zero => rw [if_pos rfl]; show nI 0 + N 0 l = N 0 l; exact Int32.zero_add _
      | succ j => rw [if_neg (by omega)]; rfl
    obtain ⟨g1, m, m1, m2, m3, m4⟩ := lg_I hC 10 (Nat.le_refl _)
    have hm : m = mxP (fun k => fitB tv k r) (fun k => wbN k i) 2000 := by
      obtain ⟨x1, x2⟩ := mx_sp (p := fun k => fitB tv k r) (f := fun k => wbN k i) (fun k hk => wbN_lt hk) 2000 (Nat.le_refl _)
      refine Nat.le_antisymm ?_ ?_
      · rcases m4 with e | ⟨l, l1, l2⟩
        · omega
        · rw [l2]; exact x1 l l1
      · rcases x2 with e | ⟨l, l1, l2⟩
        · omega
        · rw [l2]; exact m3 l l1
    rw [hst]
    unfold lgS
    show _ ∧ _ = (lkU (fun e => nI (mxP (fun k => fitB tv k r) (fun k => wbN k e) 2000)) i (lkG (fun e => nI (mxP (fun k => fitB tv k r) (fun k => wbN k e) 2000)) (nI 2001) i)).2 ∧ _ = (lkU (fun e => nI (mxP (fun k => fitB tv k r) (fun k => wbN k e) 2000)) i (lkG (fun e => nI (mxP (fun k => fitB tv k r) (fun k => wbN k e) 2000)) (nI 2001) i)).1
    generalize hw : (fun e => nI (mxP (fun k => fitB tv k r) (fun k => wbN k e) 2000)) = w at *
    have hwi : nI m = w i := by rw [← hw, hm]
    rw [m1, hwi, i2]
    refine ⟨fun l hl => ?_, ?_⟩
    · rw [if_neg (show ¬ i + 1 = 0 by omega), Nat.add_sub_cancel]
      show (lgI N i (lgF N P i).1 10).1 l = _
      rw [g1 l, if_pos hl, (hC l hl).1, hN i l (by omega) hl]
    · unfold lkU jmin
      by_cases q : w i < (lkG w (nI 2001) i).2
      · rw [if_pos q, if_pos q, if_pos q]; exact ⟨rfl, rfl⟩
      · rw [if_neg q, if_neg q, if_neg q]; exact ⟨i2, i3⟩
theorem zr_at {N : Mem} : ∀ i j l, zrN N i j l = if j < i ∧ l < 10 then nI 0 else N j l
  | 0 => fun j l => by rw [if_neg (fun z => by omega)]; rfl
  | i + 1 => fun j l => by
    show upr (zrN N i) i (fillR 10 (nI 0) (zrN N i i)) j l = _
    by_cases z : j = i
    · rw [z, upr_same]
      unfold fillR
      by_cases y : l < 10
      · rw [if_pos y, if_pos ⟨by omega, y⟩]
      · rw [if_neg y, if_neg (fun w => y w.2), zr_at i, if_neg (fun w => y w.2)]
    · rw [upr_ne z, zr_at i]
      by_cases y : j < i ∧ l < 10
      · rw [if_pos y, if_pos ⟨by omega, y.2⟩]
      · rw [if_neg y, if_neg (fun w => y ⟨by omega, w.2⟩)]
theorem ask_eq {I : Mem} {tv : Nat → Nat} {m : Nat} : askV I tv m = if nI 1 < (cnP (fun k => fitB tv k m = true) 2000) then (lkG (fun e => nI (mxP (fun k => fitB tv k m) (fun k => wbN k e) 2000)) (nI 100000000) 100).1 else -1 := by
  have hb : bdV I tv m = bdF tv m (zrN (fun j => I (71 + j)) 100) 2000 := rfl
  obtain ⟨b1, b2⟩ := bd_ps (tv := tv) (r := m) (N := zrN (fun j => I (71 + j)) 100) (fun e l he hl => by rw [zr_at, if_pos ⟨he, hl⟩]) 2000
  obtain ⟨c, c1, c2⟩ := cnP_bd (p := fun k => fitB tv k m = true) 2000
  unfold askV
  rw [hb, b1, c2]
  by_cases q : c < 2
  · rw [if_pos (nI_lt q (by decide)), if_neg (nI_nlt (by omega) (by omega))]
  · rw [if_neg (nI_nlt (by omega) (by omega)), if_pos (nI_lt (by omega) (by omega))]
    rw [(lg_F (P := fillR 10 (nI 0) (I 171)) (fun l hl => if_pos hl) b2 100 (Nat.le_refl _)).2.2]
    have hlt : ∀ e, nI (mxP (fun k => fitB tv k m) (fun k => wbN k e) 2000) < nI 2001 := fun e => by
      have := mxP_le (p := fun k => fitB tv k m) (f := fun k => wbN k e) 2000
      exact nI_lt (by omega) (by decide)
    rw [lk_st (g := fun _ => 0) (s2 := nI 100000000) hlt (fun i => Int32.lt_trans (hlt i) (by decide)) 100 (by decide)]
theorem o_ask {N d : Nat} {xs : Nat → Int32} {K : Nat → Nat × Nat} {I : Mem} {L : Nat → Nat → Int64} {R : Nat → Nat → Option Nat} {n s : Nat} (h : Sim N xs K I L R n) (hn : n + 6 ≤ lmCells) (hs : s + 876 ≤ lmSlots) : Ok (d + 40) 171 [.ref 0, .ref 337] (K, I, L, R, n, s) (AftC N xs (d + 40) 328 [.ref 318] n s false) := by
  obtain ⟨hB, ⟨o, ro, H, hS⟩, hK, hTp, ⟨p, A, Ss, hP, hA, hPs⟩, h8, h13, h25⟩ := id h
  have hT := hB.1
  have h338 := hT.2.2
  have hw := hS.2.1.1
  have hH6 := hS.2.1.2.1
  have hTe := fun ci => tk_ex (ci := ci) hT hB.2.2.2.2.2
  have hwe : upr I n (fun _ => (0 : Int32)) 319 0 = nI H := by rw [upr_ne (by omega)]; exact hw
  obtain ⟨T, tv, t1, t2, t3, t4, t5, t6⟩ := id hTp
  have t2e : upr (up2 I 0 7 (nI 0)) n (fun _ => (0 : Int32)) 318 9 = nI T := by rw [upr_ne (by omega), up2_row (by decide)]; exact t2
  have t6e : TpW (upr (up2 I 0 7 (nI 0)) n (fun _ => (0 : Int32)) 324) tv := by rw [upr_ne (by omega), up2_row (by decide)]; exact t6
  refine w_ask (d := d + 38) (TK.k1 hT rfl) ?_
  refine c_ask (d := d + 35) hT (by omega) (by omega) t1 t3 t4 t5 (fun hr => ?_) (fun hr => ?_)
  · exact wrq_e1 (mide_of hB (up2_row (by decide))) (m_askE (d := d + 36) (hTe 14) t2e t3 t6e hr (fun M hM => us_e h hn hM))
  · have hc : ∀ (F N : Mem) a, (a < 71 ∨ 171 ≤ a) → chgM F N a = F a := fun F N a ha => by unfold chgM; rw [if_neg (by omega)]
    have hM0 : ∀ a, a ≠ 171 → (a < 71 ∨ 171 ≤ a) → askM (up2 I 0 7 (nI 0)) tv (T / 2) a = up2 I 0 7 (nI 0) a := fun a h1 h2 => by
      unfold askM
      split
      · exact hc _ _ a h2
      · rw [upr_ne h1]; exact hc _ _ a h2
    generalize hJ : askM (up2 I 0 7 (nI 0)) tv (T / 2) = J at *
    have eJ : ∀ a, (1 ≤ a ∧ a < 46) ∨ 174 ≤ a → J a = I a := fun a ha => by rw [hM0 a (by omega) (by omega), up2_row (by omega)]
    have e0 : ∀ j, j ≠ 7 → J 0 j = I 0 j := fun j hj => by rw [hM0 0 (by omega) (by omega), up2_same, if_neg hj]
    have e7 : J 0 7 = nI 0 := by rw [hM0 0 (by omega) (by omega), up2_hit]
    refine wrq_v hT (mid_of hB (eJ lmScr (Or.inr (by decide)))) (m_ask (d := d + 36) hT (by rw [eJ 318 (by omega)]; exact t2) t3 (by rw [eJ 324 (by omega)]; exact t6) hr (fun M hM => ?_))
    rw [ask_eq]
    exact us_v h eJ e0 e7 hM
