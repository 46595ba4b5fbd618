/-! THE STEPS: constants of the pool, fields, arrays -/
def okS32 (c : Nat) : Bool := (lkl c).all fun ch => ch.2.all fun q => !(Nat.beq q.2.1.1 32) || (decide (sOwn[q.2.1.2.1 / 2]? = some (c, q.1)) && Nat.beq q.2.1.2.1 (2 * (q.2.1.2.1 / 2)))
theorem okS32_all : (List.range 27).all okS32 = true := by decide +kernel
theorem lk_at_all {p : Nat × Lk × Nat → Bool} {i : Nat} {k : Lk} : ∀ {r : List (Nat × List (Nat × Lk × Nat))}, (r.all fun ch => ch.2.all p) = true → lk_at i r = some k → ∃ n, p (i, k, n) = true
  | [], _, h => by cases h
  | ch :: r, ok, h => by
    simp only [List.all_cons, Bool.and_eq_true] at ok
    rw [lk_at] at h
    cases hb : Nat.blt i ch.1 with
    | true =>
      rw [hb] at h
      obtain ⟨n, hm⟩ := lk_row_mem h
      exact ⟨n, List.all_eq_true.mp ok.1 _ hm⟩
    | false =>
      rw [hb] at h
      exact lk_at_all (r := r) ok.2 h
theorem lk_out {c i : Nat} (h : 27 ≤ c) : lk c i = none := by
  obtain ⟨n, rfl⟩ : ∃ n, c = n + 27 := ⟨c - 27, by omega⟩
  rfl
theorem lk_lt {c i : Nat} {k : Lk} (h : lk c i = some k) : c < 27 := by
  rcases Nat.lt_or_ge c 27 with q | q
  · exact q
  · rw [lk_out q] at h; cases h
theorem lk_32 {c i a b : Nat} (h : lk c i = some (32, a, b)) : sOwn[a / 2]? = some (c, i) ∧ a = 2 * (a / 2) := by
  have hc := lk_lt h
  have := List.all_eq_true.mp okS32_all c (List.mem_range.mpr hc)
  obtain ⟨n, hn⟩ := lk_at_all this h
  simp only [show Nat.beq 32 32 = true from rfl, Bool.not_true, Bool.false_or, Bool.and_eq_true] at hn
  exact ⟨of_decide_eq_true hn.1, Nat.eq_of_beq_eq_true hn.2⟩
section SH
variable {p : Program} {l : Launch} {e : Env} {R : Room} {s : State} {m : MethodId} {args : Array Value} {below : List Frame} {meth : Method} {c : Code} {H : Heap} {locs : List Loc} {cells slots : Nat} {Q : State → Prop}
variable {cc : ByteArray} {pc len nL : Nat} {re : Array Slot} {G : LG} {ls st : List Value} {t : Lm} {i : Instr} {own : Nat}
theorem sm_gets (hx : p.tables.exec = Jvm.exec) (hb : c.code = cc) (hown : s.vm.findClass (cN own) = some m.cls) (hR : Rep G t H) {C n d : String} {v : Value} {k : Nat} (hZ : va_Z C n d v (gO G) s (gH G)) (hlink : (Cond.fieldLink (cN own) k C n d).before args s = true) (hd : decode cc pc = .ok (.getstatic k, 3))
    (kk : W p l e R s m args below meth c H locs cells slots Q (F0 m (pc + 3) re (v :: st))) : W p l e R s m args below meth c H locs cells slots Q (F0 m pc re st) := by
  obtain ⟨cf, kf, fi, f, a, cell, h1, h2, h3, h4, h5, h6, h7, h8⟩ := hZ
  refine W.gets hx hb hown hlink h1 h2 h3 h4 (cell₁ := cell) ?_ (fun q => by rw [q] at h6; cases h6) h7 rfl hd kk
  have ha : a < (gH G).size := Nat.not_le.mp h8
  rw [hR.2.2.2.2.1 a ha]; exact h5
theorem sm_const (hx : p.tables.exec = Jvm.exec) (hb : c.code = cc) (hown : s.vm.findClass (cN own) = some m.cls) (hts : ∀ w ∈ lw_tbl, w.before args s = true) (hK : Kn G s) (hR : Rep G t H) {j k : Nat} {z : Int} {ts : List Nat} {q : Lk} {v : Value} (hi : toI pc len (13, j, k, z, ts) = some i) (hd : decode cc pc = .ok (i, len))
    (hq : lk own k = some q) (hz : s_zt z q.1 = true) (hs : s_const q = some v)
    (kk : W p l e R s m args below meth c H locs cells slots Q (F0 m (pc + len) re (lV G v :: st))) : W p l e R s m args below meth c H locs cells slots Q (F0 m pc re st) := by
  obtain ⟨-, -, w, hw, hm⟩ := lk_ok hq
  obtain ⟨tag, a, b⟩ := q
  have two : ∀ {x y : Nat}, (Nat.beq tag x || Nat.beq tag y) = true → tag = x ∨ tag = y := fun h => by
    rcases Bool.or_eq_true _ _ ▸ h with h | h
    · exact Or.inl (Nat.eq_of_beq_eq_true h)
    · exact Or.inr (Nat.eq_of_beq_eq_true h)
  have str : tag = 32 → vk_R (cN own) k (sTx.getD (a / 2) "") (gD G (lmB + a)) s := fun ht => by
    subst ht
    obtain ⟨e1, e2⟩ := lk_32 hq
    have := hK.2.2.2.1 _ _ e1
    rw [← e2] at this
    exact this
  rw [toI_13] at hi
  split at hi
  · cases hi
    rcases two hz with rfl | rfl
    · cases hs; cases hw
      exact lv_ldc hx hb hown (hts _ hm) hd kk
    · cases hs
      exact va_ldcS hx hb hown (str rfl) hd kk
  · cases hi
    rcases two hz with rfl | rfl
    · cases hs; cases hw
      exact lv_ldcw hx hb hown (hts _ hm) hd kk
    · cases hs
      have hZ := str rfl
      intro T hT X
      obtain ⟨t1, a1, b1⟩ := kk T hT X
      exact ⟨t1, X.ldcStringW hx hown (a := gD G (lmB + a)) hZ.1 hZ.2 (g := F0 m pc re st) rfl (by rw [hb]; exact hd) t1 a1, b1⟩
  · cases hi
    have ht : tag = 31 := Nat.eq_of_beq_eq_true hz
    subst ht
    cases hs; cases hw
    exact lv_ldc2 hx hb hown (hts _ hm) hd kk
  · cases hi
    rcases two hz with rfl | rfl
    · cases hs; cases hw
      sorry
    · cases hs; cases hw
      sorry
  · cases hi
/-- the words of the fields' layout -/
def layP : List (List Nat) := [[], [435, 437, 439, 441, 443, 445, 447, 449, 451, 453, 455, 457, 459, 461, 463, 465], [252, 254, 256, 258, 260, 262, 264, 266, 268, 270, 272, 274, 276, 278, 280, 282, 284, 286, 288], [180, 182, 184], [303, 305, 307], [318, 320], [342, 344, 346, 348, 350, 352, 354], [979, 981, 983, 985, 987, 989], [368, 370, 372], [384, 386, 388], [401, 403, 405], [415], [1511, 1513, 1515, 1517, 1519, 1521, 1523, 1525, 1527, 1529, 1531, 1533, 1535, 1537, 1539, 1541, 1543, 1545, 1547, 1549, 1551, 1553, 1555, 1557, 1559, 1561, 1563, 1565]]
set_option maxRecDepth 1000000 in
set_option maxHeartbeats 4000000 in
theorem layW_ok : (List.range 13).map (fun c => (u_ws (cN c) (cF c) (cL c)).map some) = (List.range 13).map (fun c => (layP.getD c []).map fun p => lw_tbl[p]?) := by
  with_unfolding_all rfl
theorem layW {c : Nat} (hc : c < 13) : ∀ w ∈ u_ws (cN c) (cF c) (cL c), w ∈ lw_tbl := by
  intro w hw
  have h := congrArg (fun l => l[c]?) layW_ok
  simp only [List.getElem?_map, List.getElem?_range hc, Option.map_some, Option.some.injEq] at h
  obtain ⟨n, hn⟩ := List.getElem?_of_mem hw
  have h2 := congrArg (fun l => l[n]?) h
  simp only [List.getElem?_map, hn, Option.map_some] at h2
  cases hp : (layP.getD c [])[n]? with
  | none => rw [hp] at h2; cases h2
  | some x =>
    rw [hp] at h2
    exact List.mem_of_getElem? (Option.some.inj h2).symm
/-- each field is declared by its own class -/
theorem cF_own : (List.range 14).all (fun c => (List.range (cL c)).all fun k => decide ((cF c k).1 = cN c)) = true := by decide +kernel
theorem cF_own' {c k : Nat} (hc : c < 14) (hk : k < cL c) : (cF c k).1 = cN c := of_decide_eq_true (List.all_eq_true.mp (List.all_eq_true.mp cF_own c (List.mem_range.mpr hc)) k (List.mem_range.mpr hk))
/-- a field's value is read -/
theorem sm_getf0 (hA : Ad G) (hx : p.tables.exec = Jvm.exec) (hb : c.code = cc) (hown : s.vm.findClass (cN own) = some m.cls) (hts : ∀ w ∈ lw_tbl, w.before args s = true) (hK : Kn G s) (hR : Rep G t H) {ci fk k a : Nat} (hka : (lmK t a).1 = ci) (h1 : 1 ≤ ci) (h13 : ci < 14) (hfk : fk < cL ci)
    (hlink : (Cond.fieldLink (cN own) k (cN ci) (cF ci fk).2.1 (cF ci fk).2.2.1).before args s = true) (hd : decode cc pc = .ok (.getfield k, 3))
    (kk : W p l e R s m args below meth c H locs cells slots Q (F0 m (pc + 3) re (lFv G t ci a fk :: st))) : W p l e R s m args below meth c H locs cells slots Q (F0 m pc re (.ref (gD G a) :: st)) := by
  have hown' := cF_own' h13 hfk
  rcases hR.lt (a := a) (by omega) with ha | ha
  · have hc' : ci < 13 := by
      rcases Nat.lt_or_ge ci 13 with q | q
      · exact q
      · have hl := hR.2.2.2.1 a ha
        unfold lCell at hl
        rw [hka, if_neg (by omega), if_pos (by omega)] at hl
        omega
    obtain ⟨cell, q1, q2, q3, q4⟩ := hR.obj ha hka hc'
    obtain ⟨hS, hfc, kC, hkC, hkind⟩ := hK.1 ci h1 hc'
    obtain ⟨cf, kf, fi, f, hi, hsl⟩ := hS fk hfk
    have hi2 : s.fieldFound? (cN ci) (cF ci fk).2.1 (cF ci fk).2.2.1 = some (cf, kf, fi, f) := by rw [← hown']; exact hi
    refine W.getf hx hb hown hlink hi2 (u_facts hfc hkC (u_lays hts (layW hc') hfk) hi).1 q1 (by rw [q3]; exact fun h => by cases h) (v := lFv G t ci a fk) ?_ rfl rfl hd kk
    rw [hsl, q4 fk hfk]
  · obtain ⟨e1, e2, e3, e4⟩ := hR.2.2.2.2.2.2 a ha
    have hc : ci = 13 := by
      have := (hA.2 a ha (by rw [← e1, hka]; omega)).2
      rw [← e1, hka] at this
      omega
    subst hc
    have hs := ((hK.2.2.2.2.1 a ha).1 (by rw [← e1]; exact hka)).2 fk hfk
    obtain ⟨cf, kf, fi, f, cell, h1, h2, h3, h4, h5, h6⟩ := hs
    have ev : lFv G t 13 a fk = lFv G (gS G) 13 a fk := by simp only [lFv, e2, e4]
    refine W.getf hx hb hown hlink h1 h2 (a := gD G a) (cell := cell) ?_ h4 (v := lFv G t 13 a fk) (by rw [ev]; exact h5) rfl rfl hd kk
    rw [hR.2.2.2.2.1 _ (Nat.not_le.mp h6)]; exact h3
end SH
