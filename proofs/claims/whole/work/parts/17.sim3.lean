/-! THE STEPS: cells that are made -/
theorem arrW : (Cond.arrayClass .int) ∈ lw_tbl ∧ (Cond.arrayClass .long) ∈ lw_tbl ∧ (Cond.arrayClass .byte) ∈ lw_tbl ∧ (Cond.arrayClass .boolean) ∈ lw_tbl ∧ (Cond.arrayOver (.object "TurfBog$State")) ∈ lw_tbl ∧ (Cond.arrayOver (.array .int)) ∈ lw_tbl :=
  ⟨List.mem_of_getElem? (i := 187) (by decide +kernel), List.mem_of_getElem? (i := 418) (by decide +kernel), List.mem_of_getElem? (i := 890) (by decide +kernel), List.mem_of_getElem? (i := 1568) (by decide +kernel), List.mem_of_getElem? (i := 291) (by decide +kernel), List.mem_of_getElem? (i := 364) (by decide +kernel)⟩
def clP : List (Nat × Nat) := [(0, 0), (127, 157), (128, 165), (129, 171), (131, 293), (132, 311), (133, 324), (150, 567), (134, 358), (135, 376), (136, 392), (137, 409), (138, 1475), (0, 0), (148, 822), (149, 892), (151, 1005), (153, 1059), (154, 1126)]
def clN : List Nat := [0, 16, 19, 3, 3, 2, 7, 6, 3, 3, 3, 1, 28, 0, 6, 6, 6, 6, 6]
theorem clW_all : (List.range 19).all (fun c => Nat.beq c 0 || Nat.beq c 13 || (decide (lw_tbl[(clP.getD c (0, 0)).1]? = some (.initialized (cN c))) && decide (lw_tbl[(clP.getD c (0, 0)).2]? = some (.instantiable (cN c) (clN.getD c 0))))) = true := by decide +kernel
theorem clW {c : Nat} (h1 : 1 ≤ c) (h : c < 19) (h13 : c ≠ 13) : Cond.initialized (cN c) ∈ lw_tbl ∧ Cond.instantiable (cN c) (clN.getD c 0) ∈ lw_tbl := by
  have := List.all_eq_true.mp clW_all c (List.mem_range.mpr h)
  have e0 : Nat.beq c 0 = false := by cases hq : Nat.beq c 0 with | false => rfl | true => have := Nat.eq_of_beq_eq_true hq; omega
  have e1 : Nat.beq c 13 = false := by cases hq : Nat.beq c 13 with | false => rfl | true => exact absurd (Nat.eq_of_beq_eq_true hq) h13
  rw [e0, e1, Bool.false_or, Bool.false_or, Bool.and_eq_true] at this
  exact ⟨List.mem_of_getElem? (of_decide_eq_true this.1), List.mem_of_getElem? (of_decide_eq_true this.2)⟩
/-- a link's number of slots -/
def okS60 (c : Nat) : Bool := (lkl c).all fun ch => ch.2.all fun q => !(Nat.beq q.2.1.1 60) || (Nat.beq q.2.1.2.2 (clN.getD q.2.1.2.1 0))
theorem okS60_all : (List.range 27).all okS60 = true := by decide +kernel
theorem lk_60 {c i a b : Nat} (h : lk c i = some (60, a, b)) : b = clN.getD a 0 ∧ 1 ≤ a ∧ a < 19 ∧ a ≠ 13 := by
  have := List.all_eq_true.mp okS60_all c (List.mem_range.mpr (lk_lt h))
  obtain ⟨n, hn⟩ := lk_at_all this h
  simp only [show Nat.beq 60 60 = true from rfl, Bool.not_true, Bool.false_or] at hn
  obtain ⟨-, hF, -⟩ := lk_ok h
  simp only [lkF, Bool.and_eq_true, Bool.not_eq_true'] at hF
  refine ⟨Nat.eq_of_beq_eq_true hn, Nat.le_of_ble_eq_true hF.1.1, Nat.blt_eq.mp hF.1.2, fun q => ?_⟩
  rw [q] at hF
  exact absurd hF.2 (by decide)
theorem cDef_all : (List.range 13).all (fun c => (List.range (cL c)).all fun k => decide (defaultValue (cTy c k) = bif cRf c k then Value.null else .int 0)) = true := by decide +kernel
theorem cDef {c k : Nat} (hc : c < 13) (hk : k < cL c) : defaultValue (cTy c k) = bif cRf c k then Value.null else .int 0 := of_decide_eq_true (List.all_eq_true.mp (List.all_eq_true.mp cDef_all c (List.mem_range.mpr hc)) k (List.mem_range.mpr hk))
theorem upr_ne {α : Type} {f : Nat → Nat → α} {a b : Nat} {g : Nat → α} (h : b ≠ a) : upr f a g b = f b := by unfold upr; rw [if_neg h]
theorem upr_eq {α : Type} {f : Nat → Nat → α} {a : Nat} {g : Nat → α} : upr f a g a = g := by unfold upr; rw [if_pos rfl]
theorem up1_ne {α : Type} {f : Nat → α} {a b : Nat} {v : α} (h : b ≠ a) : up1 f a v b = f b := by unfold up1; rw [if_neg h]
theorem up1_eq {α : Type} {f : Nat → α} {a : Nat} {v : α} : up1 f a v a = v := by unfold up1; rw [if_pos rfl]
section SN
variable {p : Program} {l : Launch} {e : Env} {R : Room} {s : State} {m : MethodId} {args : Array Value} {below : List Frame} {meth : Method} {c : Code} {H : Heap} {locs : List Loc} {cells slots : Nat} {Q : State → Prop}
variable {cc : ByteArray} {pc len nL : Nat} {re : Array Slot} {G : LG} {ls st : List Value} {t : Lm} {i : Instr} {own : Nat}
theorem Rep.newArr (hA : Ad G) (hR : Rep G t H) {k n : Nat} {H' : Heap} (h50 : 50 ≤ k) (hfit : lmN t + 1 ≤ lmCells) (hS : lmS t + n ≤ lmSlots) (hz : H'.size = H.size + 1) (hq : ∀ q, q < H.size → H'[q]? = H[q]?) {v : Value} (hv : ∀ j, lAv G (lmNew t k n n) k (lmN t) j = v) (hc : H'[H.size]? = some (arrV (gA G k) n (fun _ => v))) : Rep G (lmNew t k n n) H' := by
  refine hR.new hA rfl hfit hS (fun b h => up1_ne h) (fun b h => upr_ne h) (fun b h => upr_ne h) (fun b h => upr_ne h) hz hq ?_
  unfold lCell
  have ek : lmK (lmNew t k n n) (lmN t) = (k, n) := up1_eq
  rw [ek, if_neg (by show ¬ k < 13; omega), if_neg (by show ¬ k < 50; omega), hR.next hA, hc]
  congr 2
  exact (funext hv).symm
theorem sm_newa (hA : Ad G) (hx : p.tables.exec = Jvm.exec) (hb : c.code = cc) (hts : ∀ w ∈ lw_tb2, w.before args s = true) (hK : Kn G s) (hR : Rep G t H) {j k kd : Nat} {z : Int} {ts : List Nat} {n : Int32} (hi : toI pc len (19, j, k, z, ts) = some i) (hd : decode cc pc = .ok (i, len)) (hs : s_newa k = some kd) (hn : ¬ n < 0) (h65 : n.toNatClampNeg ≤ 65536)
    (hfit : lmN t + 1 ≤ lmCells) (hfS : lmS t + n.toNatClampNeg ≤ lmSlots) (hcells : cells + 1 ≤ R.cells) (hslots : slots + n.toNatClampNeg ≤ R.slots)
    (kk : ∀ H', Rep G (lmNew t kd n.toNatClampNeg n.toNatClampNeg) H' → W p l e R s m args below meth c H' locs (cells + 1) (slots + n.toNatClampNeg) Q (F0 m (pc + len) re (.ref (gD G (lmN t)) :: st))) : W p l e R s m args below meth c H locs cells slots Q (F0 m pc re (.int n :: st)) := by
  have hnx := hR.next hA
  rw [hnx] at kk
  obtain ⟨wi, wl, wb, wz, -, -⟩ := arrW
  rw [toI_19] at hi
  split at hi
  · cases hi; cases hs
    refine va_newaK hx hb (atype := .boolean) (hts _ (tb2 wz rfl)) rfl hd rfl hn rfl (by show _ * 1 ≤ _; omega) hcells hslots rfl fun H' cA e1 e2 e3 e4 e5 => kk H' ?_
    have ec : cA = gA G 53 := Option.some.inj (e5.symm.trans (hK.2.2.1 53 (by omega) (by omega)).2)
    subst ec
    exact hR.newArr hA (by omega) hfit hfS e2 e3 (fun j => by show Value.int (upr (lmI t) (lmN t) (fun _ => 0) (lmN t) j) = _; rw [upr_eq]; rfl) e1
  · cases hi; cases hs
    refine va_newaK hx hb (atype := .byte) (hts _ (tb2 wb rfl)) rfl hd rfl hn rfl (by show _ * 1 ≤ _; omega) hcells hslots rfl fun H' cA e1 e2 e3 e4 e5 => kk H' ?_
    have ec : cA = gA G 52 := Option.some.inj (e5.symm.trans (hK.2.2.1 52 (by omega) (by omega)).2)
    subst ec
    exact hR.newArr hA (by omega) hfit hfS e2 e3 (fun j => by show Value.int (upr (lmI t) (lmN t) (fun _ => 0) (lmN t) j) = _; rw [upr_eq]; rfl) e1
  · cases hi; cases hs
    refine va_newaK hx hb (atype := .int) (hts _ (tb2 wi rfl)) rfl hd rfl hn rfl (by show _ * 4 ≤ _; omega) hcells hslots rfl fun H' cA e1 e2 e3 e4 e5 => kk H' ?_
    have ec : cA = gA G 50 := Option.some.inj (e5.symm.trans (hK.2.2.1 50 (by omega) (by omega)).2)
    subst ec
    exact hR.newArr hA (by omega) hfit hfS e2 e3 (fun j => by show Value.int (upr (lmI t) (lmN t) (fun _ => 0) (lmN t) j) = _; rw [upr_eq]; rfl) e1
  · cases hi; cases hs
    refine va_newaK hx hb (atype := .long) (hts _ (tb2 wl rfl)) rfl hd rfl hn rfl (by show _ * 8 ≤ _; omega) hcells hslots rfl fun H' cA e1 e2 e3 e4 e5 => kk H' ?_
    have ec : cA = gA G 51 := Option.some.inj (e5.symm.trans (hK.2.2.1 51 (by omega) (by omega)).2)
    subst ec
    exact hR.newArr hA (by omega) hfit hfS e2 e3 (fun j => by show Value.long (upr (lmL t) (lmN t) (fun _ => 0) (lmN t) j) = _; rw [upr_eq]; rfl) e1
  · cases hi
theorem sm_anew (hA : Ad G) (hx : p.tables.exec = Jvm.exec) (hb : c.code = cc) (hown : s.vm.findClass (cN own) = some m.cls) (hts : ∀ w ∈ lw_tb2, w.before args s = true) (hK : Kn G s) (hR : Rep G t H) {j k b : Nat} {z : Int} {ts : List Nat} {n : Int32} (hi : toI pc len (21, j, k, z, ts) = some i) (hd : decode cc pc = .ok (i, len)) (hq : lk own k = some (60, 2, b)) (hn : ¬ n < 0) (h65 : n.toNatClampNeg ≤ 65536)
    (hfit : lmN t + 1 ≤ lmCells) (hfS : lmS t + n.toNatClampNeg ≤ lmSlots) (hcells : cells + 1 ≤ R.cells) (hslots : slots + n.toNatClampNeg ≤ R.slots)
    (kk : ∀ H', Rep G (lmNew t 54 n.toNatClampNeg n.toNatClampNeg) H' → W p l e R s m args below meth c H' locs (cells + 1) (slots + n.toNatClampNeg) Q (F0 m (pc + len) re (.ref (gD G (lmN t)) :: st))) : W p l e R s m args below meth c H locs cells slots Q (F0 m pc re (.int n :: st)) := by
  obtain ⟨-, -, w, hw, hm⟩ := lk_ok hq
  cases hw
  have hnx := hR.next hA
  rw [hnx] at kk
  rw [toI_21] at hi
  split at hi
  · cases hi
    refine W.anew hx hb (C := "TurfBog$State") hown (hts _ (tb2 hm rfl)) (hts _ (tb2 arrW.2.2.2.2.1 rfl)) rfl hd rfl hn (by omega) hcells hslots fun cA kA comp e1 e2 e3 e4 => kk _ ?_
    obtain ⟨kA', comp', r1, r2, r3, r4⟩ := (hK.2.2.1 54 (by omega) (by omega)).2
    have ec : cA = gA G 54 := Option.some.inj (e1.symm.trans r4)
    subst ec
    refine hR.newArr hA (by omega) hfit hfS (by simp) (fun q h => by rw [Array.getElem?_push, if_neg (Nat.ne_of_lt h)]) (v := .null) (fun j => by show lV G (lRef (upr (lmR t) (lmN t) (fun _ => none) (lmN t) j)) = _; rw [upr_eq]; rfl) ?_
    rw [← arrV_new]; simp
  · cases hi
theorem sm_new (hA : Ad G) (hx : p.tables.exec = Jvm.exec) (hb : c.code = cc) (hown : s.vm.findClass (cN own) = some m.cls) (hts : ∀ w ∈ lw_tb2, w.before args s = true) (hK : Kn G s) (hR : Rep G t H) {j k ci b : Nat} {z : Int} {ts : List Nat} (hi : toI pc len (20, j, k, z, ts) = some i) (hd : decode cc pc = .ok (i, len)) (hq : lk own k = some (60, ci, b))
    (hfit : lmN t + 1 ≤ lmCells) (hfS : lmS t + b ≤ lmSlots) (hcells : cells + 1 ≤ R.cells) (hslots : slots + b ≤ R.slots)
    (kk : ∀ H', Rep G (lmNew t ci 0 b) H' → W p l e R s m args below meth c H' locs (cells + 1) (slots + b) Q (F0 m (pc + len) re (.ref (gD G (lmN t)) :: st))) : W p l e R s m args below meth c H locs cells slots Q (F0 m pc re st) := by
  obtain ⟨-, -, w, hw, hm⟩ := lk_ok hq
  cases hw
  obtain ⟨hbn, h1, h19, hn13⟩ := lk_60 hq
  obtain ⟨wi, wn⟩ := clW h1 h19 hn13
  rw [← hbn] at wn
  have hnx := hR.next hA
  rw [hnx] at kk
  have ek : lmK (lmNew t ci 0 b) (lmN t) = (ci, 0) := up1_eq
  rw [toI_20] at hi
  split at hi
  · cases hi
    have hfc : s.vm.findClass (cN ci) = some (gC G ci) := by
      rcases Nat.lt_or_ge ci 13 with h | h
      · exact (hK.1 ci h1 h).2.1
      · exact (hK.2.1 ci (by omega) h19).1
    refine W.newcK hx hb hown (hts _ (tb2 hm rfl)) (hts _ (tb2 wn rfl)) (hts _ (tb2 wi rfl)) rfl hd hcells hslots hfc rfl fun H' kC hkC e1 e2 e3 => kk H' ?_
    refine hR.new hA rfl hfit hfS (fun b h => up1_ne h) (fun b h => upr_ne h) (fun b h => upr_ne h) (fun b h => upr_ne h) e2 e3 ?_
    unfold lCell
    rw [ek]
    rcases Nat.lt_or_ge ci 13 with h | h
    · rw [if_pos h, hnx]
      refine (u_born (cTy ci) hts (layW2 h) (hK.1 ci h1 h) hkC e1 (fun k hk => cTy_ok h hk)).to (fun k hk => ?_)
      rw [cDef h hk]
      unfold lFv
      show _ = bif cRf ci k then lV G (lRef (upr (lmR t) (lmN t) (fun _ => none) (lmN t) k)) else Value.int (upr (lmI t) (lmN t) (fun _ => 0) (lmN t) k)
      rw [upr_eq, upr_eq]
      rfl
    · rw [if_neg (by show ¬ ci < 13; omega), if_pos (by show ci < 50; omega), if_pos rfl, hnx]
      refine ⟨by show 14 ≤ ci; omega, ?_⟩
      obtain ⟨-, kX, hkX, -, hX⟩ := hK.2.1 ci (by omega) h19
      cases hkC.symm.trans hkX
      rw [e1]
      show some (blank (gC G ci) kC) = _
      unfold blank
      rw [hX]
  · cases hi
end SN
