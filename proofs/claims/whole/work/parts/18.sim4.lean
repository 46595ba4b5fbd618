/-! THE STEPS: what the machine itself does: Object's constructor, arraycopy, clone, Math -/
theorem w_obj : Cond.instanceMethod Lib.objectInit ∈ lw_tbl ∧ Cond.code Lib.objectInit ⟨#[0xb1]⟩ 1 none ∈ lw_tbl := ⟨List.mem_of_getElem? (i := 162) (by decide +kernel), List.mem_of_getElem? (i := 163) (by decide +kernel)⟩
theorem w_copy : Cond.native arraycopyName ∈ lw_tbl ∧ Cond.static arraycopyName ∈ lw_tbl ∧ Cond.initialized "java/lang/System" ∈ lw_tbl := ⟨List.mem_of_getElem? (i := 528) (by decide +kernel), List.mem_of_getElem? (i := 527) (by decide +kernel), List.mem_of_getElem? (i := 140) (by decide +kernel)⟩
theorem w_math : Cond.initialized "java/lang/Math" ∈ lw_tbl ∧ Cond.static Lib.Math.max.name ∈ lw_tbl ∧ Cond.code Lib.Math.max.name Lib.Math.max.code 2 (some .int) ∈ lw_tbl ∧ Cond.static Lib.Math.min.name ∈ lw_tbl ∧ Cond.code Lib.Math.min.name Lib.Math.min.code 2 (some .int) ∈ lw_tbl ∧ Cond.static Lib.MathLoose.max_long.x ∈ lw_tbl ∧ Cond.code Lib.MathLoose.max_long.x Lib.MathLoose.max_long.code 4 (some .long) ∈ lw_tbl :=
  ⟨List.mem_of_getElem? (i := 139) (by decide +kernel), List.mem_of_getElem? (i := 554) (by decide +kernel), List.mem_of_getElem? (i := 555) (by decide +kernel), List.mem_of_getElem? (i := 551) (by decide +kernel), List.mem_of_getElem? (i := 552) (by decide +kernel), List.mem_of_getElem? (i := 1352) (by decide +kernel), List.mem_of_getElem? (i := 1353) (by decide +kernel)⟩
theorem w_clone : Cond.sameMethod "[I" "java/lang/Object" "clone" "()Ljava/lang/Object;" ∈ lw_tbl ∧ Cond.native ⟨"java/lang/Object", "clone", "()Ljava/lang/Object;"⟩ ∈ lw_tbl ∧ Cond.instanceMethod ⟨"java/lang/Object", "clone", "()Ljava/lang/Object;"⟩ ∈ lw_tbl ∧ Cond.selects "[I" ⟨"[I", "clone", "()Ljava/lang/Object;"⟩ ⟨"java/lang/Object", "clone", "()Ljava/lang/Object;"⟩ ∈ lw_tbl ∧ Cond.castable "[I" "java/lang/Cloneable" ∈ lw_tbl :=
  ⟨List.mem_of_getElem? (i := 964) (by decide +kernel), List.mem_of_getElem? (i := 965) (by decide +kernel), List.mem_of_getElem? (i := 966) (by decide +kernel), List.mem_of_getElem? (i := 967) (by decide +kernel), List.mem_of_getElem? (i := 968) (by decide +kernel)⟩
section SP
variable {p : Program} {l : Launch} {e : Env} {R : Room} {s : State} {m : MethodId} {args : Array Value} {below : List Frame} {meth : Method} {c : Code} {H : Heap} {locs : List Loc} {cells slots : Nat} {Q : State → Prop}
variable {cc : ByteArray} {pc len nL : Nat} {re : Array Slot} {G : LG} {ls st : List Value} {t : Lm} {i : Instr} {own : Nat}
theorem cat_le (G : LG) : ∀ {r : List Value}, r.length ≤ 12 → ((r.map (lV G)).map fun v => v.category).sum ≤ 24 := by
  have : ∀ r : List Value, ((r.map (lV G)).map fun v => v.category).sum ≤ 2 * r.length := by
    intro r
    induction r with
    | nil => exact Nat.le_refl 0
    | cons a r ih =>
      simp only [List.map_cons, List.sum_cons, List.length_cons]
      rcases lv_cat (lV G a) with h | h <;> omega
  intro r h
  have := this r
  omega
theorem sm_objInit (hx : p.tables.exec = Jvm.exec) (hb : c.code = cc) (hml : c.maxLocals = nL) (hown : s.vm.findClass (cN own) = some m.cls) (hts : ∀ w ∈ lw_tb2, w.before args s = true) (hL : re.size = nL) {k a x y : Nat} (hd : decode cc pc = .ok (.invokespecial k, 3)) (hq : lk own k = some (51, x, y)) (hr : st.length ≤ 12) (hRf : 1 ≤ R.frames) (hRl : 60 ≤ R.locals)
    (kk : W p l e R s m args below meth c H locs cells slots Q (F0 m (pc + 3) re (st.map (lV G)))) : W p l e R s m args below meth c H locs cells slots Q (F0 m pc re (.ref a :: st.map (lV G))) := by
  obtain ⟨-, -, w, hw, hm⟩ := lk_ok hq
  cases hw
  have := cat_le G hr
  exact W.objInit hx hb hown (hts _ (tb2 hm rfl)) (hts _ (tb2 w_obj.1 rfl)) (hts _ (tb2 w_obj.2 rfl)) rfl (by show re.size = _; rw [hml]; exact hL) rfl hd hRf (by show 2 * 0 + _ + 12 ≤ _; omega) kk
theorem sm_max (hx : p.tables.exec = Jvm.exec) (hb : c.code = cc) (hml : c.maxLocals = nL) (hown : s.vm.findClass (cN own) = some m.cls) (hts : ∀ w ∈ lw_tb2, w.before args s = true) (hL : re.size = nL) {k a b : Nat} {x y : Int32} (hd : decode cc pc = .ok (.invokestatic k, 3)) (hq : lk own k = some (56, a, b)) (hr : st.length ≤ 12) (hRf : 1 ≤ R.frames) (hRl : 60 ≤ R.locals) (hc : cells ≤ R.cells) (hs : slots ≤ R.slots)
    (kk : W p l e R s m args below meth c H locs cells slots Q (F0 m (pc + 3) re (.int (if x < y then y else x) :: st.map (lV G)))) : W p l e R s m args below meth c H locs cells slots Q (F0 m pc re (.int y :: .int x :: st.map (lV G))) := by
  obtain ⟨-, -, w, hw, hm⟩ := lk_ok hq
  cases hw
  have := cat_le G hr
  obtain ⟨w1, w2, w3, w4, w5, w6, w7⟩ := w_math
  exact va_mmax hx hb (by rw [hml, hL]) hown (hts _ (tb2 hm rfl)) (hts _ (tb2 w2 rfl)) (hts _ (tb2 w1 rfl)) (hts _ (tb2 w3 rfl)) hRf (by omega) hc hs hd kk
theorem sm_min (hx : p.tables.exec = Jvm.exec) (hb : c.code = cc) (hml : c.maxLocals = nL) (hown : s.vm.findClass (cN own) = some m.cls) (hts : ∀ w ∈ lw_tb2, w.before args s = true) (hL : re.size = nL) {k a b : Nat} {x y : Int32} (hd : decode cc pc = .ok (.invokestatic k, 3)) (hq : lk own k = some (57, a, b)) (hr : st.length ≤ 12) (hRf : 1 ≤ R.frames) (hRl : 60 ≤ R.locals) (hc : cells ≤ R.cells) (hs : slots ≤ R.slots)
    (kk : W p l e R s m args below meth c H locs cells slots Q (F0 m (pc + 3) re (.int (if y < x then y else x) :: st.map (lV G)))) : W p l e R s m args below meth c H locs cells slots Q (F0 m pc re (.int y :: .int x :: st.map (lV G))) := by
  obtain ⟨-, -, w, hw, hm⟩ := lk_ok hq
  cases hw
  have := cat_le G hr
  obtain ⟨w1, w2, w3, w4, w5, w6, w7⟩ := w_math
  exact va_mmin hx hb (by rw [hml, hL]) hown (hts _ (tb2 hm rfl)) (hts _ (tb2 w4 rfl)) (hts _ (tb2 w1 rfl)) (hts _ (tb2 w5 rfl)) hRf (by omega) hc hs hd kk
theorem sm_maxL (hx : p.tables.exec = Jvm.exec) (hb : c.code = cc) (hml : c.maxLocals = nL) (hown : s.vm.findClass (cN own) = some m.cls) (hts : ∀ w ∈ lw_tb2, w.before args s = true) (hL : re.size = nL) {k a b : Nat} {x y : Int64} (hd : decode cc pc = .ok (.invokestatic k, 3)) (hq : lk own k = some (58, a, b)) (hr : st.length ≤ 12) (hRf : 1 ≤ R.frames) (hRl : 60 ≤ R.locals) (hc : cells ≤ R.cells) (hs : slots ≤ R.slots)
    (kk : W p l e R s m args below meth c H locs cells slots Q (F0 m (pc + 3) re (.long (if y < x then x else y) :: st.map (lV G)))) : W p l e R s m args below meth c H locs cells slots Q (F0 m pc re (.long y :: .long x :: st.map (lV G))) := by
  obtain ⟨-, -, w, hw, hm⟩ := lk_ok hq
  cases hw
  have := cat_le G hr
  obtain ⟨w1, w2, w3, w4, w5, w6, w7⟩ := w_math
  exact va_mmax_long hx hb (by rw [hml, hL]) hown (hts _ (tb2 hm rfl)) (hts _ (tb2 w6 rfl)) (hts _ (tb2 w1 rfl)) (hts _ (tb2 w7 rfl)) hRf (by omega) hc hs hd kk
theorem sm_cast (hA : Ad G) (hx : p.tables.exec = Jvm.exec) (hb : c.code = cc) (hown : s.vm.findClass (cN own) = some m.cls) (hts : ∀ w ∈ lw_tb2, w.before args s = true) (hK : Kn G s) (hR : Rep G t H) {j k a x y : Nat} {z : Int} {ts : List Nat} (hi : toI pc len (26, j, k, z, ts) = some i) (hd : decode cc pc = .ok (i, len)) (hq : lk own k = some (63, x, y)) (ha : a < lmN t) (hka : (lmK t a).1 = 50)
    (kk : W p l e R s m args below meth c H locs cells slots Q (F0 m (pc + len) re (.ref (gD G a) :: st))) : W p l e R s m args below meth c H locs cells slots Q (F0 m pc re (.ref (gD G a) :: st)) := by
  obtain ⟨-, -, w, hw, hm⟩ := lk_ok hq
  cases hw
  rw [toI_26] at hi
  split at hi
  · cases hi
    intro T hT X
    obtain ⟨vm', X', st'⟩ := X.checkcastYes hx hown (hts _ (tb2 hm rfl)) (a := gD G a) (by rw [hT]; exact hR.arr ha hka (by omega)) rfl (hK.2.2.1 50 (by omega) (by omega)).2 (va_asg _ _) (g := F0 m pc re (.ref (gD G a) :: st)) rfl rfl (by rw [hb]; exact hd)
    obtain ⟨t1, a1, b1⟩ := kk (T.setVm vm') hT X'
    exact ⟨t1, st' t1 a1, b1⟩
  · cases hi
theorem clampI {z : Int32} (hz : ¬ z < 0) : z.toInt = (z.toNatClampNeg : Int) := by
  have hz0 : (0 : Int) ≤ z.toInt := by
    have := Int32.not_lt.mp hz
    simpa using Int32.le_iff_toInt_le.mp this
  show z.toInt = ((z.toInt.toNat : Nat) : Int)
  omega
theorem s_copy_inv {t : Lm} {a b : Nat} {i j n : Int32} {t' : Lm} (h : s_copy t a i b j n = some t') : (lmK t a).1 = 50 ∧ (lmK t b).1 = 50 ∧ a < lmN t ∧ b < lmN t ∧ ¬ a = b ∧ ¬ i < 0 ∧ ¬ j < 0 ∧ ¬ n < 0 ∧ i.toNatClampNeg + n.toNatClampNeg ≤ (lmK t a).2 ∧ j.toNatClampNeg + n.toNatClampNeg ≤ (lmK t b).2 ∧ t' = (lmK t, upr (lmI t) b (va_cpy (lmI t a) (lmI t b) i.toNatClampNeg j.toNatClampNeg n.toNatClampNeg), lmL t, lmR t, lmN t, lmS t) := by
  unfold s_copy at h
  cases hb : Nat.beq (lmK t a).1 50 && Nat.beq (lmK t b).1 50 && Nat.blt a (lmN t) && Nat.blt b (lmN t) && !(Nat.beq a b) && decide (¬ i < 0) && decide (¬ j < 0) && decide (¬ n < 0) && Nat.ble (i.toNatClampNeg + n.toNatClampNeg) (lmK t a).2 && Nat.ble (j.toNatClampNeg + n.toNatClampNeg) (lmK t b).2 with
  | false => rw [hb] at h; cases h
  | true =>
    rw [hb, cond_true] at h
    simp only [Bool.and_eq_true, decide_eq_true_eq, Bool.not_eq_true'] at hb
    obtain ⟨⟨⟨⟨⟨⟨⟨⟨⟨h1, h2⟩, h3⟩, h4⟩, h5⟩, h6⟩, h7⟩, h8⟩, h9⟩, h10⟩ := hb
    refine ⟨Nat.eq_of_beq_eq_true h1, Nat.eq_of_beq_eq_true h2, Nat.blt_eq.mp h3, Nat.blt_eq.mp h4, fun q => ?_, h6, h7, h8, Nat.le_of_ble_eq_true h9, Nat.le_of_ble_eq_true h10, (Option.some.inj h).symm⟩
    rw [q, Nat.beq_refl] at h5
    cases h5
theorem sm_copy (hA : Ad G) (hx : p.tables.exec = Jvm.exec) (hb : c.code = cc) (hml : c.maxLocals = nL) (hown : s.vm.findClass (cN own) = some m.cls) (hts : ∀ w ∈ lw_tb2, w.before args s = true) (hK : Kn G s) (hR : Rep G t H) (hL : re.size = nL) {k a b x y : Nat} {sp dp n : Int32} {t' : Lm} (hd : decode cc pc = .ok (.invokestatic k, 3)) (hq : lk own k = some (53, x, y)) (hs : s_copy t a sp b dp n = some t') (hr : st.length ≤ 12) (hRf : 1 ≤ R.frames) (hRl : 24 + (nativeFrameWords "java/lang/System" "arraycopy" 5 + 11) ≤ R.locals) (hloc : ∀ q ∈ locs, (gH G).size ≤ q.base)
    (kk : ∀ (H' : Heap) (locs' : List Loc), Rep G t' H' → (∀ q ∈ locs', (gH G).size ≤ q.base) → lmN t' = lmN t → lmS t' = lmS t → W p l e R s m args below meth c H' locs' cells slots Q (F0 m (pc + 3) re (st.map (lV G)))) : W p l e R s m args below meth c H locs cells slots Q (F0 m pc re (.int n :: .int dp :: .ref (gD G b) :: .int sp :: .ref (gD G a) :: st.map (lV G))) := by
  obtain ⟨-, -, w, hw, hm⟩ := lk_ok hq
  cases hw
  have hcat := cat_le G hr
  obtain ⟨hka, hkb, ha, hbn, hne, h1, h2, h3, h4, h5, rfl⟩ := s_copy_inv hs
  have ca := hR.arr ha hka (by omega)
  have cb := hR.arr hbn hkb (by omega)
  intro T hT X
  obtain ⟨-, k0, hk0, cm0, hkk0⟩ := (hK.2.2.1 50 (by omega) (by omega)).1 (lmK t a).2 (lAv G t 50 a)
  obtain ⟨vm', X', step⟩ := X.arraycopy hx hown (hts _ (tb2 hm rfl)) (hts _ (tb2 w_copy.1 rfl)) (hts _ (tb2 w_copy.2.1 rfl)) (hts _ (tb2 w_copy.2.2 rfl)) (src := gD G a) (dst := gD G b) (cs := arrV (gA G 50) (lmK t a).2 (lAv G t 50 a)) (cd := arrV (gA G 50) (lmK t b).2 (lAv G t 50 b)) (srcPos := sp) (destPos := dp) (n := n) (by rw [hT]; exact ca) (by rw [hT]; exact cb)
    (fun _ h => VmData.noConfusion h) (fun _ h => VmData.noConfusion h) (fun h => VmData.noConfusion h) (fun h => VmData.noConfusion h) hk0 hk0 hkk0 hkk0 rfl h1 h2 h3
    (by rw [clampI h1, clampI h3, arrV_size]; omega) (by rw [clampI h2, clampI h3, arrV_size]; omega)
    (fun vm₁ _ i hi => by
      have e : (arrV (gA G 50) (lmK t a).2 (lAv G t 50 a)).slots.getD (sp.toNatClampNeg + i) .null = .int (lmI t a (sp.toNatClampNeg + i)) := by
        rw [Array.getD_eq_getD_getElem?, arrV_read _ _ (by omega)]
        rfl
      rw [e]
      exact ⟨rfl, trivial⟩)
    (g := F0 m pc re (.int n :: .int dp :: .ref (gD G b) :: .int sp :: .ref (gD G a) :: st.map (lV G))) rfl (by show re.size = _; rw [hml]; exact hL) (rest := st.map (lV G)) rfl (by rw [hb]; exact hd) hRf (by show 2 * 0 + _ + _ ≤ _; omega)
  have e1 : copied (arrV (gA G 50) (lmK t a).2 (lAv G t 50 a)) (arrV (gA G 50) (lmK t b).2 (lAv G t 50 b)) sp dp n = arrV (gA G 50) (lmK t b).2 (fun j => .int (va_cpy (lmI t a) (lmI t b) sp.toNatClampNeg dp.toNatClampNeg n.toNatClampNeg j)) := va_copied (fun z => .int z) (gA G 50) (gA G 50) (lmI t a) (lmI t b) h4
  rw [e1] at X' step
  have hl : gD G b < H.size := (Array.getElem?_eq_some_iff.mp cb).1
  have hTl : gD G b < (T.setVm vm').heap.size := by show gD G b < T.heap.size; rw [hT]; exact hl
  generalize hcell : arrV (gA G 50) (lmK t b).2 (fun j => .int (va_cpy (lmI t a) (lmI t b) sp.toNatClampNeg dp.toNatClampNeg n.toNatClampNeg j)) = cell at X' step
  obtain ⟨t1, a1, b1⟩ := kk ((T.setVm vm').setCell (gD G b) cell).heap _ (by
      refine hR.put hA hbn rfl rfl (fun _ _ => rfl) (fun d h => upr_ne h) (fun _ _ => rfl) (fun _ _ => rfl) (by rw [size_setCell]; show T.heap.size = _; rw [hT]) (fun q h => by rw [heapAt_setCell_ne _ (Ne.symm h)]; show T.heap[q]? = _; rw [hT]) ?_
      unfold lCell
      show if (lmK t b).1 < 13 then _ else if (lmK t b).1 < 50 then _ else _
      rw [hkb, if_neg (by omega), if_neg (by omega), heapAt_setCell_self _ hTl, ← hcell]
      congr 2
      funext j
      show _ = Value.int (upr (lmI t) b _ b j)
      rw [upr_eq]) (fun q hq => by
      rcases List.mem_append.mp hq with h | h
      · exact hloc q h
      · obtain ⟨z, -, hz⟩ := List.mem_map.mp h
        rw [← hz]
        show (gH G).size ≤ gD G b
        rw [hR.ad hA hbn]; omega) rfl rfl _ rfl X'
  exact ⟨t1, step t1 a1, b1⟩
theorem sm_clone (hA : Ad G) (hx : p.tables.exec = Jvm.exec) (hb : c.code = cc) (hml : c.maxLocals = nL) (hown : s.vm.findClass (cN own) = some m.cls) (hts : ∀ w ∈ lw_tb2, w.before args s = true) (hK : Kn G s) (hR : Rep G t H) (hL : re.size = nL) {k a x y : Nat} (hd : decode cc pc = .ok (.invokevirtual k, 3)) (hq : lk own k = some (54, x, y)) (ha : a < lmN t) (hka : (lmK t a).1 = 50) (hr : st.length ≤ 12) (hRf : 1 ≤ R.frames) (hRl : 60 ≤ R.locals)
    (hfit : lmN t + 1 ≤ lmCells) (hfS : lmS t + (lmK t a).2 ≤ lmSlots) (hcells : cells + 1 ≤ R.cells) (hslots : slots + (lmK t a).2 ≤ R.slots)
    (kk : ∀ H', Rep G (s_clone t a) H' → W p l e R s m args below meth c H' locs (cells + 1) (slots + (lmK t a).2) Q (F0 m (pc + 3) re (.ref (gD G (lmN t)) :: st.map (lV G)))) : W p l e R s m args below meth c H locs cells slots Q (F0 m pc re (.ref (gD G a) :: st.map (lV G))) := by
  obtain ⟨-, -, w, hw, hm⟩ := lk_ok hq
  cases hw
  have hcat := cat_le G hr
  have ca := hR.arr ha hka (by omega)
  have hnx := hR.next hA
  rw [hnx] at kk
  obtain ⟨w1, w2, w3, w4, w5⟩ := w_clone
  obtain ⟨hAr, hnm⟩ := hK.2.2.1 50 (by omega) (by omega)
  obtain ⟨c0, t0', f1, f2, f3⟩ := Cond.castable_spec (hts _ (tb2 w5 rfl))
  have hnm' : s.vm.findClass "[I" = some (gA G 50) := hnm
  cases hnm'.symm.trans f1
  generalize hcell : arrV (gA G 50) (lmK t a).2 (lAv G t 50 a) = cell at ca
  have hc0 : cell.cls = gA G 50 := by rw [← hcell]; rfl
  have hv0 : cell.vm = .none := by rw [← hcell]; rfl
  have hsz : cell.slots.size = (lmK t a).2 := by rw [← hcell, arrV_size]
  have hE : ({ cls := cell.cls, slots := cell.slots } : Cell) = cell := by rw [← hcell]; rfl
  intro T hT X
  obtain ⟨-, kA, hkA, comp, hkind⟩ := State.isArrayOf_alike X.warmed.alike (hAr 0 (fun _ => .null))
  obtain ⟨-, kS, hkS, compS, hkindS⟩ := hAr 0 (fun _ => .null)
  obtain ⟨vm', X', stp⟩ := X.cloneArray hx hown (hts _ (tb2 hm rfl)) (hts _ (tb2 w1 rfl)) (hts _ (tb2 w2 rfl)) (hts _ (tb2 w3 rfl)) (hts _ (tb2 w4 rfl)) (a := gD G a) (cell := cell) (by rw [hT]; exact ca) (fun k h => by rw [hv0] at h; cases h) (by rw [hv0]; exact fun h => by cases h) (by rw [hc0]; exact hnm') f2 (by rw [hc0]; exact f3)
    (fun i v hv => by
      rw [hc0]
      have hk' : T.vm.classes[gA G 50]? = some kA := hkA
      have hvi : fits .int v = true := by
        rw [← hcell] at hv
        have hl : i < (lmK t a).2 := by
          have := (Array.getElem?_eq_some_iff.mp hv).1
          rw [arrV_size] at this; exact this
        rw [arrV_read _ _ hl] at hv
        cases hv
        rfl
      have hk2 : kA.kind = .array comp .int := hkind
      simpa [State.fitsSlot, State.slotType?, hk', hk2] using hvi)
    (g := F0 m pc re (.ref (gD G a) :: st.map (lV G))) rfl (by show re.size = _; rw [hml]; exact hL) rfl (by rw [hb]; exact hd) hRf (by show 2 * 0 + _ + 14 ≤ _; omega) hcells (by rw [hsz]; exact hslots) (hloader := by rw [hc0]; exact Vm.clonesLoader_of_array hkS hkindS)
  rw [hE, hsz] at X'
  obtain ⟨t1, b1, b2⟩ := kk ((T.setVm vm').pushCell cell).heap (by
      refine hR.new hA rfl hfit hfS (fun b h => up1_ne h) (fun b h => upr_ne h) (fun b h => upr_ne h) (fun b h => upr_ne h) (by rw [size_pushCell]; show T.heap.size + 1 = _; rw [hT]) (fun q h => by show (T.heap.push cell)[q]? = _; rw [hT, Array.getElem?_push, if_neg (Nat.ne_of_lt h)]) ?_
      unfold lCell
      have ek : lmK (s_clone t a) (lmN t) = lmK t a := up1_eq
      rw [ek, hka, if_neg (by omega), if_neg (by omega), hnx]
      show (T.heap.push cell)[H.size]? = _
      rw [hT, Array.getElem?_push_size, ← hcell]
      congr 2
      funext j
      show _ = Value.int (upr (lmI t) (lmN t) (lmI t a) (lmN t) j)
      rw [upr_eq]; rfl) _ rfl X'
  refine ⟨t1, stp t1 ?_, b2⟩
  rw [hE, hT]
  exact b1
end SP
