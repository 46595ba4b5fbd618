/-! THE STEPS: constants of the pool, fields, arrays -/
def okS32 (c : Nat) : Bool := (lkl c).all fun ch => ch.2.all fun q => !(Nat.beq q.2.1.1 32) || (decide (sOwn[q.2.1.2.1 / 2]? = some (c, q.1)) && Nat.beq q.2.1.2.1 (2 * (q.2.1.2.1 / 2)))
theorem okS32_all : (List.range 27).all okS32 = true := by decide +kernel
theorem lk_at_all {p : Nat × Lk × Nat → Bool} {i : Nat} {k : Lk} : ∀ {r : List (Nat × List (Nat × Lk × Nat))}, (r.all fun ch => ch.2.all p) = true → lk_at i r = some k → ∃ n, p (i, k, n) = true
  | [], _, h => by cases h
  | ch :: r, ok, h => by
    simp only [List.all_cons, Bool.and_eq_true] at ok
    rw [lk_at] at h
    cases hb : Nat.blt i ch.1 with
    | true =>
      rw [hb] at h
      obtain ⟨n, hm⟩ := lk_row_mem h
      exact ⟨n, List.all_eq_true.mp ok.1 _ hm⟩
    | false =>
      rw [hb] at h
      exact lk_at_all (r := r) ok.2 h
theorem lk_out {c i : Nat} (h : 27 ≤ c) : lk c i = none := by
  obtain ⟨n, rfl⟩ : ∃ n, c = n + 27 := ⟨c - 27, by omega⟩
  rfl
theorem lk_lt {c i : Nat} {k : Lk} (h : lk c i = some k) : c < 27 := by
  rcases Nat.lt_or_ge c 27 with q | q
  · exact q
  · rw [lk_out q] at h; cases h
theorem lk_32 {c i a b : Nat} (h : lk c i = some (32, a, b)) : sOwn[a / 2]? = some (c, i) ∧ a = 2 * (a / 2) := by
  have hc := lk_lt h
  have := List.all_eq_true.mp okS32_all c (List.mem_range.mpr hc)
  obtain ⟨n, hn⟩ := lk_at_all this h
  simp only [show Nat.beq 32 32 = true from rfl, Bool.not_true, Bool.false_or, Bool.and_eq_true] at hn
  exact ⟨of_decide_eq_true hn.1, Nat.eq_of_beq_eq_true hn.2⟩
def okS40 (c : Nat) : Bool := (lkl c).all fun ch => ch.2.all fun q => (!(Nat.beq q.2.1.1 40) || (Nat.ble 1000 q.2.1.2.1 && Nat.blt q.2.1.2.1 1003)) && (!(Nat.beq q.2.1.1 41) || Nat.beq q.2.1.2.1 1)
theorem okS40_all : (List.range 27).all okS40 = true := by decide +kernel
theorem lk_40 {c i a b : Nat} (h : lk c i = some (40, a, b)) : 1000 ≤ a ∧ a < 1003 := by
  have := List.all_eq_true.mp okS40_all c (List.mem_range.mpr (lk_lt h))
  obtain ⟨n, hn⟩ := lk_at_all this h
  simp only [show Nat.beq 40 40 = true from rfl, Bool.not_true, Bool.false_or, Bool.and_eq_true] at hn
  exact ⟨Nat.le_of_ble_eq_true hn.1.1, Nat.blt_eq.mp hn.1.2⟩
theorem lk_41 {c i a b : Nat} (h : lk c i = some (41, a, b)) : a = 1 := by
  have := List.all_eq_true.mp okS40_all c (List.mem_range.mpr (lk_lt h))
  obtain ⟨n, hn⟩ := lk_at_all this h
  simp only [show Nat.beq 41 41 = true from rfl, Bool.not_true, Bool.false_or, Bool.and_eq_true] at hn
  exact Nat.eq_of_beq_eq_true hn.2
section SH
variable {p : Program} {l : Launch} {e : Env} {R : Room} {s : State} {m : MethodId} {args : Array Value} {below : List Frame} {meth : Method} {c : Code} {H : Heap} {locs : List Loc} {cells slots : Nat} {Q : State → Prop}
variable {cc : ByteArray} {pc len nL : Nat} {re : Array Slot} {G : LG} {ls st : List Value} {t : Lm} {i : Instr} {own : Nat}
theorem sm_gets (hx : p.tables.exec = Jvm.exec) (hb : c.code = cc) (hown : s.vm.findClass (cN own) = some m.cls) (hR : Rep G t H) {C n d : String} {v : Value} {k : Nat} (hZ : va_Z C n d v (gO G) s (gH G)) (hlink : (Cond.fieldLink (cN own) k C n d).before args s = true) (hd : decode cc pc = .ok (.getstatic k, 3))
    (kk : W p l e R s m args below meth c H locs cells slots Q (F0 m (pc + 3) re (v :: st))) : W p l e R s m args below meth c H locs cells slots Q (F0 m pc re st) := by
  obtain ⟨cf, kf, fi, f, a, cell, h1, h2, h3, h4, h5, h6, h7, h8⟩ := hZ
  refine W.gets hx hb hown hlink h1 h2 h3 h4 (cell₁ := cell) ?_ (fun q => by rw [q] at h6; cases h6) h7 rfl hd kk
  have ha : a < (gH G).size := Nat.not_le.mp h8
  rw [hR.2.2.2.2.1 a ha]; exact h5
theorem sm_const (hx : p.tables.exec = Jvm.exec) (hb : c.code = cc) (hown : s.vm.findClass (cN own) = some m.cls) (hts : ∀ w ∈ lw_tb2, w.before args s = true) (hK : Kn G s) (hR : Rep G t H) {j k : Nat} {z : Int} {ts : List Nat} {q : Lk} {v : Value} (hi : toI pc len (13, j, k, z, ts) = some i) (hd : decode cc pc = .ok (i, len))
    (hq : lk own k = some q) (hz : s_zt z q.1 = true) (hs : s_const q = some v)
    (kk : W p l e R s m args below meth c H locs cells slots Q (F0 m (pc + len) re (lV G v :: st))) : W p l e R s m args below meth c H locs cells slots Q (F0 m pc re st) := by
  obtain ⟨-, -, w, hw, hm⟩ := lk_ok hq
  obtain ⟨tag, a, b⟩ := q
  have two : ∀ {x y : Nat}, (Nat.beq tag x || Nat.beq tag y) = true → tag = x ∨ tag = y := fun h => by
    rcases Bool.or_eq_true _ _ ▸ h with h | h
    · exact Or.inl (Nat.eq_of_beq_eq_true h)
    · exact Or.inr (Nat.eq_of_beq_eq_true h)
  have str : tag = 32 → vk_R (cN own) k (sTx.getD (a / 2) "") (gD G (lmB + a)) s := fun ht => by
    subst ht
    obtain ⟨e1, e2⟩ := lk_32 hq
    have := hK.2.2.2.1 _ _ e1
    rw [← e2] at this
    exact this
  rw [toI_13] at hi
  split at hi
  · cases hi
    rcases two hz with rfl | rfl
    · cases hs; cases hw
      exact lv_ldc hx hb hown (hts _ (tb2 hm rfl)) hd kk
    · cases hs
      exact va_ldcS hx hb hown (str rfl) hd kk
  · cases hi
    rcases two hz with rfl | rfl
    · cases hs; cases hw
      exact lv_ldcw hx hb hown (hts _ (tb2 hm rfl)) hd kk
    · cases hs
      have hZ := str rfl
      intro T hT X
      obtain ⟨t1, a1, b1⟩ := kk T hT X
      exact ⟨t1, X.ldcStringW hx hown (a := gD G (lmB + a)) hZ.1 hZ.2 (g := F0 m pc re st) rfl (by rw [hb]; exact hd) t1 a1, b1⟩
  · cases hi
    have ht : tag = 31 := Nat.eq_of_beq_eq_true hz
    subst ht
    cases hs; cases hw
    exact lv_ldc2 hx hb hown (hts _ (tb2 hm rfl)) hd kk
  · cases hi
    rcases two hz with rfl | rfl
    · cases hs; cases hw
      obtain ⟨e1, e2⟩ := lk_40 hq
      exact sm_gets hx hb hown hR (hK.2.2.2.2.2.1 a e1 e2) (hts _ (tb2 hm rfl)) hd kk
    · cases hs; cases hw
      have e := lk_41 hq
      subst e
      exact sm_gets hx hb hown hR hK.2.2.2.2.2.2.1 (hts _ (tb2 hm rfl)) hd kk
  · cases hi
/-- the words of the fields' layout -/
def layP : List (List Nat) := [[], [435, 437, 439, 441, 443, 445, 447, 449, 451, 453, 455, 457, 459, 461, 463, 465], [252, 254, 256, 258, 260, 262, 264, 266, 268, 270, 272, 274, 276, 278, 280, 282, 284, 286, 288], [180, 182, 184], [303, 305, 307], [318, 320], [342, 344, 346, 348, 350, 352, 354], [979, 981, 983, 985, 987, 989], [368, 370, 372], [384, 386, 388], [401, 403, 405], [415], [1511, 1513, 1515, 1517, 1519, 1521, 1523, 1525, 1527, 1529, 1531, 1533, 1535, 1537, 1539, 1541, 1543, 1545, 1547, 1549, 1551, 1553, 1555, 1557, 1559, 1561, 1563, 1565]]
set_option maxRecDepth 1000000 in
set_option maxHeartbeats 4000000 in
theorem layW_ok : (List.range 13).map (fun c => (u_ws (cN c) (cF c) (cL c)).map some) = (List.range 13).map (fun c => (layP.getD c []).map fun p => lw_tbl[p]?) := by
  with_unfolding_all rfl
theorem layW {c : Nat} (hc : c < 13) : ∀ w ∈ u_ws (cN c) (cF c) (cL c), w ∈ lw_tbl := by
  intro w hw
  have h := congrArg (fun l => l[c]?) layW_ok
  simp only [List.getElem?_map, List.getElem?_range hc, Option.map_some, Option.some.injEq] at h
  obtain ⟨n, hn⟩ := List.getElem?_of_mem hw
  have h2 := congrArg (fun l => l[n]?) h
  simp only [List.getElem?_map, hn, Option.map_some] at h2
  cases hp : (layP.getD c [])[n]? with
  | none => rw [hp] at h2; cases h2
  | some x =>
    rw [hp] at h2
    exact List.mem_of_getElem? (Option.some.inj h2).symm
theorem layW2 {c : Nat} (hc : c < 13) : ∀ w ∈ u_ws (cN c) (cF c) (cL c), w ∈ lw_tb2 := fun w hw => tb2 (layW hc w hw) (by
  obtain ⟨k, -, rfl⟩ := List.mem_map.mp hw
  unfold u_lay; split <;> rfl)
/-- each field is declared by its own class -/
theorem cF_own : (List.range 14).all (fun c => (List.range (cL c)).all fun k => decide ((cF c k).1 = cN c)) = true := by decide +kernel
theorem cF_own' {c k : Nat} (hc : c < 14) (hk : k < cL c) : (cF c k).1 = cN c := of_decide_eq_true (List.all_eq_true.mp (List.all_eq_true.mp cF_own c (List.mem_range.mpr hc)) k (List.mem_range.mpr hk))
/-- a field's value is read -/
theorem sm_getf0 (hA : Ad G) (hx : p.tables.exec = Jvm.exec) (hb : c.code = cc) (hown : s.vm.findClass (cN own) = some m.cls) (hts : ∀ w ∈ lw_tb2, w.before args s = true) (hK : Kn G s) (hR : Rep G t H) {ci fk k a : Nat} (hka : (lmK t a).1 = ci) (h1 : 1 ≤ ci) (h13 : ci < 14) (hfk : fk < cL ci)
    (hlink : (Cond.fieldLink (cN own) k (cN ci) (cF ci fk).2.1 (cF ci fk).2.2.1).before args s = true) (hd : decode cc pc = .ok (.getfield k, 3))
    (kk : W p l e R s m args below meth c H locs cells slots Q (F0 m (pc + 3) re (lFv G t ci a fk :: st))) : W p l e R s m args below meth c H locs cells slots Q (F0 m pc re (.ref (gD G a) :: st)) := by
  have hown' := cF_own' h13 hfk
  rcases hR.lt (a := a) (by omega) with ha | ha
  · have hc' : ci < 13 := by
      rcases Nat.lt_or_ge ci 13 with q | q
      · exact q
      · have hl := hR.2.2.2.1 a ha
        unfold lCell at hl
        rw [hka, if_neg (by omega), if_pos (by omega)] at hl
        omega
    obtain ⟨cell, q1, q2, q3, q4⟩ := hR.obj ha hka hc'
    obtain ⟨hS, hfc, kC, hkC, hkind⟩ := hK.1 ci h1 hc'
    obtain ⟨cf, kf, fi, f, hi, hsl⟩ := hS fk hfk
    have hi2 : s.fieldFound? (cN ci) (cF ci fk).2.1 (cF ci fk).2.2.1 = some (cf, kf, fi, f) := by rw [← hown']; exact hi
    refine W.getf hx hb hown hlink hi2 (u_facts hfc hkC (u_lays hts (layW2 hc') hfk) hi).1 q1 (by rw [q3]; exact fun h => by cases h) (v := lFv G t ci a fk) ?_ rfl rfl hd kk
    rw [hsl, q4 fk hfk]
  · obtain ⟨e1, e2, e3, e4⟩ := hR.2.2.2.2.2.2 a ha
    have hc : ci = 13 := by
      have := (hA.2 a ha (by rw [← e1, hka]; omega)).2
      rw [← e1, hka] at this
      omega
    subst hc
    have hs := ((hK.2.2.2.2.1 a ha).1 (by rw [← e1]; exact hka)).2 fk hfk
    obtain ⟨cf, kf, fi, f, cell, h1, h2, h3, h4, h5, h6⟩ := hs
    have ev : lFv G t 13 a fk = lFv G (gS G) 13 a fk := by simp only [lFv, e2, e4]
    refine W.getf hx hb hown hlink h1 h2 (a := gD G a) (cell := cell) ?_ h4 (v := lFv G t 13 a fk) (by rw [ev]; exact h5) rfl rfl hd kk
    rw [hR.2.2.2.2.1 _ (Nat.not_le.mp h6)]; exact h3
/-- a field is read, by its link -/
theorem sm_getf (hA : Ad G) (hx : p.tables.exec = Jvm.exec) (hb : c.code = cc) (hown : s.vm.findClass (cN own) = some m.cls) (hts : ∀ w ∈ lw_tb2, w.before args s = true) (hK : Kn G s) (hR : Rep G t H) {j k a : Nat} {z : Int} {ts : List Nat} {q : Lk} {v : Value} (hi : toI pc len (14, j, k, z, ts) = some i) (hd : decode cc pc = .ok (i, len))
    (hq : lk own k = some q) (hs : s_getf q t a = some v)
    (kk : W p l e R s m args below meth c H locs cells slots Q (F0 m (pc + len) re (lV G v :: st))) : W p l e R s m args below meth c H locs cells slots Q (F0 m pc re (.ref (gD G a) :: st)) := by
  obtain ⟨-, hF, w, hw, hm⟩ := lk_ok hq
  obtain ⟨tag, ci, fk⟩ := q
  unfold s_getf at hs
  dsimp only at hs
  cases hb1 : Nat.beq (lmK t a).1 ci with
  | false => rw [hb1] at hs; cases hs
  | true =>
    have hka : (lmK t a).1 = ci := Nat.eq_of_beq_eq_true hb1
    rw [hb1, cond_true] at hs
    rw [toI_14] at hi
    split at hi
    · cases hi
      have fin : ∀ (h1 : 1 ≤ ci) (h13 : ci < 14) (hfk : fk < cL ci) (hw' : (Cond.fieldLink (cN own) k (cN ci) (cF ci fk).2.1 (cF ci fk).2.2.1) ∈ lw_tbl) (hv : lFv G t ci a fk = lV G v), W p l e R s m args below meth c H locs cells slots Q (F0 m pc re (.ref (gD G a) :: st)) := fun h1 h13 hfk hw' hv =>
        sm_getf0 hA hx hb hown hts hK hR hka h1 h13 hfk (hts _ (tb2 hw' rfl)) hd (by rw [hv]; exact kk)
      have one : ∀ (hfk : fk < cL ci), 1 ≤ ci := fun h => by
        rcases Nat.eq_zero_or_pos ci with q | q
        · subst q; exact absurd (show fk < 0 from h) (Nat.not_lt_zero _)
        · exact q
      split at hs
      · cases hs; cases hw
        simp only [lkF, Bool.and_eq_true, Bool.not_eq_true'] at hF
        obtain ⟨⟨⟨⟨f1, f2⟩, -⟩, -⟩, f5⟩ := hF
        exact fin (one (Nat.blt_eq.mp f1)) (by have := Nat.blt_eq.mp f5; omega) (Nat.blt_eq.mp f1) hm (by unfold lFv; rw [f2]; rfl)
      · cases hs; cases hw
        simp only [lkF, Bool.and_eq_true, Bool.not_eq_true'] at hF
        obtain ⟨⟨⟨⟨f1, f2⟩, -⟩, -⟩, f5⟩ := hF
        exact fin (one (Nat.blt_eq.mp f1)) (by have := Nat.blt_eq.mp f5; omega) (Nat.blt_eq.mp f1) hm (by unfold lFv; rw [f2]; rfl)
      · cases hs; cases hw
        simp only [lkF, Bool.and_eq_true, Bool.not_eq_true'] at hF
        obtain ⟨⟨⟨f1, f2⟩, -⟩, f5⟩ := hF
        exact fin (one (Nat.blt_eq.mp f1)) (by have := Nat.blt_eq.mp f5; omega) (Nat.blt_eq.mp f1) hm (by unfold lFv; rw [f2]; rfl)
      · cases hs; cases hw
        simp only [lkF, Bool.and_eq_true, Bool.not_eq_true'] at hF
        obtain ⟨⟨⟨⟨f1, f2⟩, -⟩, -⟩, f5⟩ := hF
        exact fin (one (Nat.blt_eq.mp f1)) (Nat.blt_eq.mp f5) (Nat.blt_eq.mp f1) hm (by unfold lFv; rw [f2]; rfl)
      · cases hs; cases hw
        simp only [lkF, Bool.and_eq_true, Bool.not_eq_true'] at hF
        obtain ⟨⟨⟨f1, f2⟩, -⟩, f5⟩ := hF
        exact fin (one (Nat.blt_eq.mp f1)) (Nat.blt_eq.mp f5) (Nat.blt_eq.mp f1) hm (by unfold lFv; rw [f2]; rfl)
      · cases hs
    · cases hi
/-- the types of fields: parsed, names apart -/
def cTy (c k : Nat) : FieldType := (parseFieldDescriptor (cF c k).2.2.1).getD .int
theorem cTy_all : (List.range 13).all (fun c => (List.range (cL c)).all fun k => decide (parseFieldDescriptor (cF c k).2.2.1 = some (cTy c k)) && (List.range (cL c)).all fun b => Nat.beq k b || decide ((cF c k).2.1 ≠ (cF c b).2.1)) = true := by decide +kernel
theorem cTy_ok {c k : Nat} (hc : c < 13) (hk : k < cL c) : parseFieldDescriptor (cF c k).2.2.1 = some (cTy c k) := by
  have := List.all_eq_true.mp (List.all_eq_true.mp cTy_all c (List.mem_range.mpr hc)) k (List.mem_range.mpr hk)
  simp only [Bool.and_eq_true] at this
  exact of_decide_eq_true this.1
theorem cNm_ap {c : Nat} (hc : c < 13) : ∀ a, a < cL c → ∀ b, b < cL c → a ≠ b → (cF c a).2.1 ≠ (cF c b).2.1 := by
  intro a ha b hb hn
  have := List.all_eq_true.mp (List.all_eq_true.mp cTy_all c (List.mem_range.mpr hc)) a (List.mem_range.mpr ha)
  simp only [Bool.and_eq_true] at this
  have := List.all_eq_true.mp this.2 b (List.mem_range.mpr hb)
  rcases Bool.or_eq_true _ _ ▸ this with h | h
  · exact absurd (Nat.eq_of_beq_eq_true h) hn
  · exact of_decide_eq_true h
/-- a field is written: what is left is to see that the cell is the new one's -/
theorem sm_putf0 (hA : Ad G) (hx : p.tables.exec = Jvm.exec) (hb : c.code = cc) (hown : s.vm.findClass (cN own) = some m.cls) (hts : ∀ w ∈ lw_tb2, w.before args s = true) (hK : Kn G s) (hR : Rep G t H) {ci fk k a : Nat} {v : Value} {t' : Lm} (ha : a < lmN t) (hka : (lmK t a).1 = ci) (h1 : 1 ≤ ci) (h13 : ci < 13) (hfk : fk < cL ci)
    (hlink : (Cond.fieldLink (cN own) k (cN ci) (cF ci fk).2.1 (cF ci fk).2.2.1).before args s = true) (hfin : (cF ci fk).2.2.2 = false ∨ ((cF ci fk).2.2.2 = true ∧ meth.name = "<init>" ∧ own = ci)) (hn : narrow (cTy ci fk) v = v) (hfit : fits (cTy ci fk) v = true) (hd : decode cc pc = .ok (.putfield k, 3))
    (hN : lmN t' = lmN t) (hS : lmS t' = lmS t) (hK' : lmK t' = lmK t) (hI' : ∀ b, b ≠ a → lmI t' b = lmI t b) (hL' : ∀ b, b ≠ a → lmL t' b = lmL t b) (hR' : ∀ b, b ≠ a → lmR t' b = lmR t b) (hv : ∀ j, lFv G t' ci a j = if j = fk then v else lFv G t ci a j)
    (hloc : ∀ q ∈ locs, (gH G).size ≤ q.base)
    (kk : ∀ (H' : Heap) (locs' : List Loc), Rep G t' H' → (∀ q ∈ locs', (gH G).size ≤ q.base) → W p l e R s m args below meth c H' locs' cells slots Q (F0 m (pc + 3) re st)) : W p l e R s m args below meth c H locs cells slots Q (F0 m pc re (v :: .ref (gD G a) :: st)) := by
  obtain ⟨cell, q1, q2, q3, q4⟩ := hR.obj ha hka h13
  obtain ⟨hSl, hfc, kC, hkC, hkind⟩ := hK.1 ci h1 h13
  obtain ⟨cf, kf, fi, f, hi, hsl⟩ := hSl fk hfk
  have hown' := cF_own' (c := ci) (by omega) hfk
  have hi2 : s.fieldFound? (cN ci) (cF ci fk).2.1 (cF ci fk).2.2.1 = some (cf, kf, fi, f) := by rw [← hown']; exact hi
  have hst := (u_facts hfc hkC (u_lays hts (layW2 h13) hfk) hi).1
  have hlay := hts _ (layW2 h13 _ (u_in_lay hfk))
  have hslt : f.slot < cell.slots.size := by rw [hsl]; exact k2_hasslot (q4 fk hfk)
  have hap : ∀ x y, x < cL ci → y < cL ci → x ≠ y → (gI G ci) x ≠ (gI G ci) y := by
    intro x y hx' hy hne
    obtain ⟨_, _, _, fa, hia, ea⟩ := hSl x hx'
    obtain ⟨_, _, _, fb, hib, eb⟩ := hSl y hy
    rw [← ea, ← eb]
    refine u_apart (u_lays hts (layW2 h13) hx') (u_lays hts (layW2 h13) hy) hia hib ?_
    rw [(State.fieldFound?_type hia (cTy_ok h13 hx')).1, (State.fieldFound?_type hib (cTy_ok h13 hy)).1]
    exact cNm_ap h13 x hx' y hy hne
  have go : ∀ H' : Heap, H'[gD G a]? = some (cell.setSlot f.slot v) → H'.size = H.size → (∀ q, q ≠ gD G a → H'[q]? = H[q]?) → W p l e R s m args below meth c H' (locs ++ [⟨gD G a, f.slot⟩]) cells slots Q (F0 m (pc + 3) re st) := by
    intro H' e1 e2 e3
    refine kk H' _ (hR.put hA ha hN hS (fun b _ => by rw [hK']) hI' hL' hR' e2 e3 ?_) (fun q hq => ?_)
    · unfold lCell
      rw [hK', hka, if_pos h13]
      rw [hsl] at e1
      refine t_OB.to (V := updV (lFv G t ci a) fk v) ⟨_, e1, q2, q3, t_set q4 hap hfk v⟩ (fun j _ => ?_)
      rw [hv j]; rfl
    · rcases List.mem_append.mp hq with h | h
      · exact hloc q h
      · rw [List.mem_singleton.mp h]
        show (gH G).size ≤ gD G a
        rw [hR.ad hA ha]; omega
  rcases hfin with hfin | ⟨hfin, hin, ho⟩
  · unfold u_lay at hlay
    rw [if_neg (by rw [hfin]; decide)] at hlay
    have h6 := u_store hfc hkC hkind hlay hi (cTy_ok h13 hfk) hn hfit
    exact W.putK hx hb (f := f) ⟨hown, hlink, ⟨_, _, _, hi2⟩, hst⟩ (by rw [q2]; exact h6) q1 q3 hslt rfl rfl hd go
  · subst ho
    unfold u_lay at hlay
    rw [if_pos hfin] at hlay
    have hcf : m.cls = cf := by
      obtain ⟨_, _, c', _, _, _, -, -, hf', -, -, -, hown2, -⟩ := Cond.laysFinal_spec hlay
      have e1 : c' = cf := by have := hi.symm.trans hf'; simp at this; exact this.1.symm
      rw [hown'] at hown2
      rw [← e1]; exact Option.some.inj (hown.symm.trans hown2)
    have h6 := u_fits hfc hkC hkind (u_lays hts (layW2 h13) hfk) hi (cTy_ok h13 hfk) hn hfit
    exact W.putFinK hx hb hown hlink hi2 hst hcf hin (by rw [q2]; exact h6) q1 q3 hslt rfl rfl hd go
theorem fits_ref {ty : FieldType} (h : ty.isReference = true) (a : Nat) : narrow ty (.ref a) = .ref a ∧ fits ty (.ref a) = true := by cases ty <;> simp [FieldType.isReference] at h <;> exact ⟨rfl, rfl⟩
theorem fits_null {ty : FieldType} (h : ty.isReference = true) : narrow ty .null = .null ∧ fits ty .null = true := by cases ty <;> simp [FieldType.isReference] at h <;> exact ⟨rfl, rfl⟩
/-- a reference field's type is one -/
theorem cRf_all : (List.range 13).all (fun c => (List.range (cL c)).all fun k => !(cRf c k) || (cTy c k).isReference) = true := by decide +kernel
theorem cRf_ok {c k : Nat} (hc : c < 13) (hk : k < cL c) (h : cRf c k = true) : (cTy c k).isReference = true := by
  have := List.all_eq_true.mp (List.all_eq_true.mp cRf_all c (List.mem_range.mpr hc)) k (List.mem_range.mpr hk)
  rw [h] at this
  exact this
theorem up2_ne {α : Type} {f : Nat → Nat → α} {a k b : Nat} {v : α} (h : b ≠ a) : up2 f a k v b = f b := by
  funext j
  unfold up2
  rw [if_neg (fun q => h q.1)]
/-- a field is written, by its link -/
theorem sm_putf (hA : Ad G) (hx : p.tables.exec = Jvm.exec) (hb : c.code = cc) (hown : s.vm.findClass (cN own) = some m.cls) (hts : ∀ w ∈ lw_tb2, w.before args s = true) (hK : Kn G s) (hR : Rep G t H) {ini : Bool} (hini : ini = true → meth.name = "<init>") {j k a : Nat} {z : Int} {ts : List Nat} {q : Lk} {v : Value} {t' : Lm} (hi : toI pc len (15, j, k, z, ts) = some i) (hd : decode cc pc = .ok (i, len))
    (hq : lk own k = some q) (hs : s_putf own ini q t a v = some t') (hloc : ∀ q ∈ locs, (gH G).size ≤ q.base)
    (kk : ∀ (H' : Heap) (locs' : List Loc), Rep G t' H' → (∀ q ∈ locs', (gH G).size ≤ q.base) → lmN t' = lmN t → lmS t' = lmS t → W p l e R s m args below meth c H' locs' cells slots Q (F0 m (pc + len) re st)) : W p l e R s m args below meth c H locs cells slots Q (F0 m pc re (lV G v :: .ref (gD G a) :: st)) := by
  obtain ⟨-, hF, w, hw, hm⟩ := lk_ok hq
  obtain ⟨tag, ci, fk⟩ := q
  unfold s_putf at hs
  dsimp only at hs
  cases hb1 : Nat.beq (lmK t a).1 ci && Nat.blt a (lmN t) with
  | false => rw [hb1] at hs; cases hs
  | true =>
    rw [hb1, cond_true] at hs
    simp only [Bool.and_eq_true] at hb1
    have hka : (lmK t a).1 = ci := Nat.eq_of_beq_eq_true hb1.1
    have ha : a < lmN t := Nat.blt_eq.mp hb1.2
    have one : ∀ (hfk : fk < cL ci), 1 ≤ ci := fun h => by
      rcases Nat.eq_zero_or_pos ci with q | q
      · subst q; exact absurd (show fk < 0 from h) (Nat.not_lt_zero _)
      · exact q
    have fvI : ∀ x, cRf ci fk = false → ∀ j, lFv G (lmSetI t a fk x) ci a j = if j = fk then .int x else lFv G t ci a j := fun x hr j => by
      by_cases e : j = fk
      · subst e; rw [if_pos rfl]; unfold lFv; rw [hr]; show Value.int (up2 (lmI t) a j x a j) = _; unfold up2; rw [if_pos ⟨rfl, rfl⟩]
      · rw [if_neg e]; unfold lFv; show (bif cRf ci j then _ else Value.int (up2 (lmI t) a fk x a j)) = _; unfold up2; rw [if_neg (fun q => e q.2)]; rfl
    have fvR : ∀ x, cRf ci fk = true → ∀ j, lFv G (lmSetR t a fk x) ci a j = if j = fk then lV G (lRef x) else lFv G t ci a j := fun x hr j => by
      by_cases e : j = fk
      · subst e; rw [if_pos rfl]; unfold lFv; rw [hr]; show lV G (lRef (up2 (lmR t) a j x a j)) = _; unfold up2; rw [if_pos ⟨rfl, rfl⟩]
      · rw [if_neg e]; unfold lFv; show (bif cRf ci j then lV G (lRef (up2 (lmR t) a fk x a j)) else _) = _; unfold up2; rw [if_neg (fun q => e q.2)]; rfl
    rw [toI_15] at hi
    split at hi
    · cases hi
      have goI : ∀ (x : Int32) (h13 : ci < 13) (hfk : fk < cL ci) (hr : cRf ci fk = false) (hw' : (Cond.fieldLink (cN own) k (cN ci) (cF ci fk).2.1 (cF ci fk).2.2.1) ∈ lw_tbl) (hfin : (cF ci fk).2.2.2 = false ∨ ((cF ci fk).2.2.2 = true ∧ meth.name = "<init>" ∧ own = ci)) (hn : narrow (cTy ci fk) (.int x) = .int x) (hfit : fits (cTy ci fk) (.int x) = true) (ht : t' = lmSetI t a fk x),
          W p l e R s m args below meth c H locs cells slots Q (F0 m pc re (.int x :: .ref (gD G a) :: st)) := fun x h13 hfk hr hw' hfin hn hfit ht => by
        subst ht
        exact sm_putf0 (t' := lmSetI t a fk x) hA hx hb hown hts hK hR ha hka (one hfk) h13 hfk (hts _ (tb2 hw' rfl)) hfin hn hfit hd rfl rfl rfl (fun b h => up2_ne h) (fun b h => rfl) (fun b h => rfl) (fvI x hr) hloc (fun H' locs' r1 r2 => kk H' locs' r1 r2 rfl rfl)
      have goR : ∀ (x : Option Nat) (h13 : ci < 13) (hfk : fk < cL ci) (hr : cRf ci fk = true) (hw' : (Cond.fieldLink (cN own) k (cN ci) (cF ci fk).2.1 (cF ci fk).2.2.1) ∈ lw_tbl) (hfin : (cF ci fk).2.2.2 = false ∨ ((cF ci fk).2.2.2 = true ∧ meth.name = "<init>" ∧ own = ci)) (ht : t' = lmSetR t a fk x),
          W p l e R s m args below meth c H locs cells slots Q (F0 m pc re (lV G (lRef x) :: .ref (gD G a) :: st)) := fun x h13 hfk hr hw' hfin ht => by
        subst ht
        have hty := cRf_ok h13 hfk hr
        have hnf : narrow (cTy ci fk) (lV G (lRef x)) = lV G (lRef x) ∧ fits (cTy ci fk) (lV G (lRef x)) = true := by
          cases x with
          | none => exact fits_null hty
          | some b => exact fits_ref hty _
        exact sm_putf0 (t' := lmSetR t a fk x) hA hx hb hown hts hK hR ha hka (one hfk) h13 hfk (hts _ (tb2 hw' rfl)) hfin hnf.1 hnf.2 hd rfl rfl rfl (fun b h => rfl) (fun b h => rfl) (fun b h => up2_ne h) (fvR x hr) hloc (fun H' locs' r1 r2 => kk H' locs' r1 r2 rfl rfl)
      have tyI : (cF ci fk).2.2.1 = "I" → ci < 13 → fk < cL ci → cTy ci fk = .int := fun h h13 hfk => by unfold cTy; rw [h]; decide +kernel
      have tyZ : (cF ci fk).2.2.1 = "Z" → ci < 13 → fk < cL ci → cTy ci fk = .boolean := fun h h13 hfk => by unfold cTy; rw [h]; decide +kernel
      split at hs
      · cases hs; cases hw
        simp only [lkF, Bool.and_eq_true, Bool.not_eq_true', decide_eq_true_eq] at hF
        obtain ⟨⟨⟨⟨f1, f2⟩, f3⟩, f4⟩, f5⟩ := hF
        have h13 := Nat.blt_eq.mp f5
        have ty := tyI f3 h13 (Nat.blt_eq.mp f1)
        exact goI _ h13 (Nat.blt_eq.mp f1) f2 hm (Or.inl f4) (by rw [ty]; rfl) (by rw [ty]; rfl) rfl
      · split at hs
        · rename_i x hx01
          cases hs; cases hw
          simp only [lkF, Bool.and_eq_true, Bool.not_eq_true', decide_eq_true_eq] at hF
          obtain ⟨⟨⟨⟨f1, f2⟩, f3⟩, f4⟩, f5⟩ := hF
          have h13 := Nat.blt_eq.mp f5
          have ty := tyZ f3 h13 (Nat.blt_eq.mp f1)
          exact goI _ h13 (Nat.blt_eq.mp f1) f2 hm (Or.inl f4) (by rw [ty]; rcases hx01 with rfl | rfl <;> rfl) (by rw [ty]; rcases hx01 with rfl | rfl <;> rfl) rfl
        · cases hs
      · cases hs; cases hw
        simp only [lkF, Bool.and_eq_true, Bool.not_eq_true', decide_eq_true_eq] at hF
        obtain ⟨⟨⟨f1, f2⟩, f4⟩, f5⟩ := hF
        exact goR (some _) (Nat.blt_eq.mp f5) (Nat.blt_eq.mp f1) f2 hm (Or.inl f4) rfl
      · cases hs; cases hw
        simp only [lkF, Bool.and_eq_true, Bool.not_eq_true', decide_eq_true_eq] at hF
        obtain ⟨⟨⟨f1, f2⟩, f4⟩, f5⟩ := hF
        exact goR none (Nat.blt_eq.mp f5) (Nat.blt_eq.mp f1) f2 hm (Or.inl f4) rfl
      · rename_i x
        cases hb2 : ini && Nat.beq own ci with
        | false => rw [hb2] at hs; cases hs
        | true =>
          rw [hb2, cond_true] at hs
          simp only [Bool.and_eq_true] at hb2
          have ho := Nat.eq_of_beq_eq_true hb2.2
          cases hs; cases hw
          simp only [lkF, Bool.and_eq_true, Bool.not_eq_true', decide_eq_true_eq, Bool.or_eq_true] at hF
          obtain ⟨⟨⟨⟨f1, f2⟩, f3⟩, f4⟩, f5⟩ := hF
          have hl := hR.2.2.2.1 a ha
          have h13 : ci < 13 := by
            rcases Nat.lt_or_ge ci 13 with r | r
            · exact r
            · have h14 := Nat.blt_eq.mp f5
              unfold lCell at hl
              rw [hka, if_neg (by omega), if_pos (by omega)] at hl
              omega
          have f3' : (cF ci fk).2.2.1 = "I" := by
            rcases f3 with h | h
            · exact h
            · have := Nat.eq_of_beq_eq_true h; omega
          have ty := tyI f3' h13 (Nat.blt_eq.mp f1)
          exact goI _ h13 (Nat.blt_eq.mp f1) f2 hm (Or.inr ⟨f4, hini hb2.1, ho⟩) (by rw [ty]; rfl) (by rw [ty]; rfl) rfl
      · rename_i x
        cases hb2 : ini && Nat.beq own ci with
        | false => rw [hb2] at hs; cases hs
        | true =>
          rw [hb2, cond_true] at hs
          simp only [Bool.and_eq_true] at hb2
          have ho := Nat.eq_of_beq_eq_true hb2.2
          cases hs; cases hw
          simp only [lkF, Bool.and_eq_true, Bool.not_eq_true', decide_eq_true_eq] at hF
          obtain ⟨⟨⟨f1, f2⟩, f4⟩, f5⟩ := hF
          have hl := hR.2.2.2.1 a ha
          have h13 : ci < 13 := by
            rcases Nat.lt_or_ge ci 13 with r | r
            · exact r
            · have h14 := Nat.blt_eq.mp f5
              unfold lCell at hl
              rw [hka, if_neg (by omega), if_pos (by omega)] at hl
              omega
          exact goR (some _) h13 (Nat.blt_eq.mp f1) f2 hm (Or.inr ⟨f4, hini hb2.1, ho⟩) rfl
      · cases hs
    · cases hi
end SH
