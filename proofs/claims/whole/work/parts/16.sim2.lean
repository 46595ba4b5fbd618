/-! THE STEPS: arrays -/
section SA
variable {p : Program} {l : Launch} {e : Env} {R : Room} {s : State} {m : MethodId} {args : Array Value} {below : List Frame} {meth : Method} {c : Code} {H : Heap} {locs : List Loc} {cells slots : Nat} {Q : State → Prop}
variable {cc : ByteArray} {pc len nL : Nat} {re : Array Slot} {G : LG} {ls st : List Value} {t : Lm} {i : Instr} {own : Nat}
/-- an array's cell, made or static: its class, its places -/
theorem Rep.arrAt (hA : Ad G) (hK : Kn G s) (hR : Rep G t H) {a k n : Nat} (hk : lmK t a = (k, n)) (h50 : 50 ≤ k) (h56 : k < 56) : ∃ cell : Cell, H[gD G a]? = some cell ∧ s.isArrayOf cell (aTy k) ∧ cell.vm ≠ .unknown ∧ n ≤ cell.slots.size ∧ cell.slots.size.toInt32 = Int32.ofNat n ∧ (∀ j, j < n → cell.slots[j]? = some (lAv G t k a j)) ∧ (a < lmN t → cell = arrV (gA G k) n (lAv G t k a)) := by
  rcases hR.lt (a := a) (by rw [hk]; show ¬ k = 0; omega) with ha | ha
  · have h := hR.arr ha (k := k) (by rw [hk]) h50
    rw [hk] at h
    refine ⟨arrV (gA G k) n (lAv G t k a), h, (hK.2.2.1 k h50 h56).1 n _, fun q => VmData.noConfusion q, by rw [arrV_size]; exact Nat.le_refl n, by rw [arrV_size], fun j hj => arrV_read _ _ hj, fun _ => rfl⟩
  · obtain ⟨e1, e2, e3, e4⟩ := hR.2.2.2.2.2.2 a ha
    have hs := (hK.2.2.2.2.1 a ha).2 (by rw [← e1, hk]; exact h50)
    rw [← e1, hk] at hs
    obtain ⟨cell, h1, h2, h3, h4, h5, h6, h7⟩ := hs
    have ev : lAv G t k a = lAv G (gS G) k a := by funext j; simp only [lAv, e2, e3, e4]
    refine ⟨cell, by rw [hR.2.2.2.2.1 _ (Nat.not_le.mp h7)]; exact h1, h2, h3, h4, h5, fun j hj => by rw [ev]; exact h6 j hj, fun hl => ?_⟩
    have := hR.2.1
    have := lmCells_lt
    omega
theorem lIn_vp {x : Int32} {n : Nat} (h : lIn x n = true) : ¬ (x < 0 ∨ n ≤ x.toNatClampNeg) ∧ x.toNatClampNeg < n := by
  unfold lIn at h
  simp only [Bool.and_eq_true, decide_eq_true_eq] at h
  exact ⟨fun q => q.elim h.1 (fun q => by omega), h.2⟩
theorem s_aload_inv {j a : Nat} {x : Int32} {v : Value} (hs : s_aload j t a x = some v) : lIn x (lmK t a).2 = true ∧ ((j = 0 ∧ (lmK t a).1 = 50 ∧ v = .int (lmI t a x.toNatClampNeg)) ∨ (j = 1 ∧ (lmK t a).1 = 51 ∧ v = .long (lmL t a x.toNatClampNeg)) ∨ (j = 2 ∧ (lmK t a).1 = 54 ∧ v = lRef (lmR t a x.toNatClampNeg)) ∨ (j = 2 ∧ (lmK t a).1 = 55 ∧ v = lRef (lmR t a x.toNatClampNeg)) ∨ (j = 3 ∧ (lmK t a).1 = 52 ∧ v = .int (lmI t a x.toNatClampNeg)) ∨ (j = 3 ∧ (lmK t a).1 = 53 ∧ v = .int (lmI t a x.toNatClampNeg))) := by
  unfold s_aload at hs
  cases hin : lIn x (lmK t a).2 with
  | false => rw [hin] at hs; cases hs
  | true =>
    rw [hin, cond_true] at hs
    refine ⟨rfl, ?_⟩
    split at hs
    · rename_i hk; exact Or.inl ⟨rfl, hk, (Option.some.inj hs).symm⟩
    · rename_i hk; exact Or.inr (Or.inl ⟨rfl, hk, (Option.some.inj hs).symm⟩)
    · rename_i hk; exact Or.inr (Or.inr (Or.inl ⟨rfl, hk, (Option.some.inj hs).symm⟩))
    · rename_i hk; exact Or.inr (Or.inr (Or.inr (Or.inl ⟨rfl, hk, (Option.some.inj hs).symm⟩)))
    · rename_i hk; exact Or.inr (Or.inr (Or.inr (Or.inr (Or.inl ⟨rfl, hk, (Option.some.inj hs).symm⟩))))
    · rename_i hk; exact Or.inr (Or.inr (Or.inr (Or.inr (Or.inr ⟨rfl, hk, (Option.some.inj hs).symm⟩))))
    · cases hs
theorem sm_aload (hA : Ad G) (hx : p.tables.exec = Jvm.exec) (hb : c.code = cc) (hK : Kn G s) (hR : Rep G t H) {j k a : Nat} {z : Int} {ts : List Nat} {x : Int32} {v : Value} (hi : toI pc len (16, j, k, z, ts) = some i) (hd : decode cc pc = .ok (i, len)) (hs : s_aload j t a x = some v)
    (kk : W p l e R s m args below meth c H locs cells slots Q (F0 m (pc + len) re (lV G v :: st))) : W p l e R s m args below meth c H locs cells slots Q (F0 m pc re (.int x :: .ref (gD G a) :: st)) := by
  obtain ⟨hin, hs⟩ := s_aload_inv hs
  obtain ⟨h1, h2⟩ := lIn_vp hin
  have hin' : ∀ cell : Cell, (lmK t a).2 ≤ cell.slots.size → ¬ (x < 0 ∨ cell.slots.size ≤ x.toNatClampNeg) := fun cell h q => q.elim (fun q => h1 (Or.inl q)) (fun q => by omega)
  rw [toI_16] at hi
  rcases hs with ⟨rfl, hk, rfl⟩ | ⟨rfl, hk, rfl⟩ | ⟨rfl, hk, rfl⟩ | ⟨rfl, hk, rfl⟩ | ⟨rfl, hk, rfl⟩ | ⟨rfl, hk, rfl⟩ <;>
    obtain ⟨cell, q1, q2, q3, q4, q5, q6, -⟩ := hR.arrAt hA hK (a := a) (Prod.ext hk rfl) (by omega) (by omega) <;> split at hi
  all_goals first
    | (cases hi; exact W.iald hx hb q1 q2 q3 (hin' cell q4) (q6 _ h2) rfl rfl hd kk)
    | (cases hi; exact W.lald hx hb q1 q2 q3 (hin' cell q4) (q6 _ h2) rfl rfl hd kk)
    | (cases hi; exact W.aald hx hb q1 q2 rfl q3 (hin' cell q4) (q6 _ h2) rfl rfl hd kk)
    | (cases hi; exact W.bald hx hb q1 q2 q3 (hin' cell q4) (q6 _ h2) rfl rfl hd kk)
    | (cases hi; exact W.zald hx hb q1 q2 q3 (hin' cell q4) (q6 _ h2) rfl rfl hd kk)
    | (rename_i hj; exact absurd hj (by decide))
    | (rename_i hj _; exact absurd hj (by decide))
    | cases hi
theorem sm_alen (hA : Ad G) (hx : p.tables.exec = Jvm.exec) (hb : c.code = cc) (hK : Kn G s) (hR : Rep G t H) {j k a : Nat} {z : Int} {ts : List Nat} (hi : toI pc len (18, j, k, z, ts) = some i) (hd : decode cc pc = .ok (i, len)) (h50 : 50 ≤ (lmK t a).1) (h56 : (lmK t a).1 < 56)
    (kk : W p l e R s m args below meth c H locs cells slots Q (F0 m (pc + len) re (.int (Int32.ofNat (lmK t a).2) :: st))) : W p l e R s m args below meth c H locs cells slots Q (F0 m pc re (.ref (gD G a) :: st)) := by
  obtain ⟨cell, q1, q2, q3, q4, q5, q6, -⟩ := hR.arrAt hA hK (a := a) rfl h50 h56
  rw [toI_18] at hi
  split at hi
  · cases hi
    exact W.alen hx hb q1 q2 q5 rfl rfl hd kk
  · cases hi
/-- an array's place is written -/
theorem sm_ast (hA : Ad G) (hR : Rep G t H) {a k n j : Nat} (ha : a < lmN t) (hk : lmK t a = (k, n)) (h50 : 50 ≤ k) {t' : Lm} {v : Value} {H' : Heap} (hN : lmN t' = lmN t) (hS : lmS t' = lmS t) (hK' : lmK t' = lmK t) (hI' : ∀ b, b ≠ a → lmI t' b = lmI t b) (hL' : ∀ b, b ≠ a → lmL t' b = lmL t b) (hR' : ∀ b, b ≠ a → lmR t' b = lmR t b)
    (hv : ∀ q, lAv G t' k a q = updV (lAv G t k a) j v q) (h1 : H'[gD G a]? = some ((arrV (gA G k) n (lAv G t k a)).setSlot j v)) (h2 : H'.size = H.size) (h3 : ∀ q, q ≠ gD G a → H'[q]? = H[q]?) : Rep G t' H' := by
  refine hR.put hA ha hN hS (fun b _ => by rw [hK']) hI' hL' hR' h2 h3 ?_
  unfold lCell
  rw [hK', hk, if_neg (by show ¬ k < 13; omega), if_neg (by show ¬ k < 50; omega)]
  rw [h1, arrV_store]
  rw [show updV (lAv G t k a) j v = lAv G t' k a from (funext hv).symm]
theorem s_astore_inv {j a : Nat} {x : Int32} {v : Value} {t' : Lm} (hs : s_astore j t a x v = some t') : lIn x (lmK t a).2 = true ∧ a < lmN t ∧ ((j = 0 ∧ (lmK t a).1 = 50 ∧ ∃ y, v = .int y ∧ t' = lmSetI t a x.toNatClampNeg y) ∨ (j = 1 ∧ (lmK t a).1 = 51 ∧ ∃ y, v = .long y ∧ t' = lmSetL t a x.toNatClampNeg y) ∨
    (j = 2 ∧ (lmK t a).1 = 54 ∧ ∃ b, v = .ref b ∧ (lmK t b).1 = 2 ∧ b < lmN t ∧ t' = lmSetR t a x.toNatClampNeg (some b)) ∨ (j = 3 ∧ (lmK t a).1 = 52 ∧ ∃ y, v = .int y ∧ t' = lmSetI t a x.toNatClampNeg y.toInt8.toInt32) ∨ (j = 3 ∧ (lmK t a).1 = 53 ∧ ∃ y, v = .int y ∧ (y = 0 ∨ y = 1) ∧ t' = lmSetI t a x.toNatClampNeg y)) := by
  unfold s_astore at hs
  cases hin0 : lIn x (lmK t a).2 && Nat.blt a (lmN t) with
  | false => rw [hin0] at hs; cases hs
  | true =>
    rw [hin0, cond_true] at hs
    simp only [Bool.and_eq_true] at hin0
    refine ⟨hin0.1, Nat.blt_eq.mp hin0.2, ?_⟩
    split at hs
    · rename_i hk; exact Or.inl ⟨rfl, hk, _, rfl, (Option.some.inj hs).symm⟩
    · rename_i hk; exact Or.inr (Or.inl ⟨rfl, hk, _, rfl, (Option.some.inj hs).symm⟩)
    · rename_i b hk
      cases hb2 : Nat.beq (lmK t b).1 2 && Nat.blt b (lmN t) with
      | false => rw [hb2] at hs; cases hs
      | true =>
        rw [hb2, cond_true] at hs
        simp only [Bool.and_eq_true] at hb2
        exact Or.inr (Or.inr (Or.inl ⟨rfl, hk, _, rfl, Nat.eq_of_beq_eq_true hb2.1, Nat.blt_eq.mp hb2.2, (Option.some.inj hs).symm⟩))
    · rename_i hk; exact Or.inr (Or.inr (Or.inr (Or.inl ⟨rfl, hk, _, rfl, (Option.some.inj hs).symm⟩)))
    · rename_i hk
      split at hs
      · rename_i h01; exact Or.inr (Or.inr (Or.inr (Or.inr ⟨rfl, hk, _, rfl, h01, (Option.some.inj hs).symm⟩)))
      · cases hs
    · cases hs
theorem sm_astore (hA : Ad G) (hx : p.tables.exec = Jvm.exec) (hb : c.code = cc) (hK : Kn G s) (hR : Rep G t H) {j k a : Nat} {z : Int} {ts : List Nat} {x : Int32} {v : Value} {t' : Lm} (hi : toI pc len (17, j, k, z, ts) = some i) (hd : decode cc pc = .ok (i, len)) (hs : s_astore j t a x v = some t') (hloc : ∀ q ∈ locs, (gH G).size ≤ q.base)
    (kk : ∀ (H' : Heap) (locs' : List Loc), Rep G t' H' → (∀ q ∈ locs', (gH G).size ≤ q.base) → lmN t' = lmN t → lmS t' = lmS t → W p l e R s m args below meth c H' locs' cells slots Q (F0 m (pc + len) re st)) : W p l e R s m args below meth c H locs cells slots Q (F0 m pc re (lV G v :: .int x :: .ref (gD G a) :: st)) := by
  obtain ⟨hin, ha, hs⟩ := s_astore_inv hs
  obtain ⟨h1, h2⟩ := lIn_vp hin
  have hloc' : ∀ q ∈ locs ++ [(⟨gD G a, x.toNatClampNeg⟩ : Loc)], (gH G).size ≤ q.base := fun q hq => by
    rcases List.mem_append.mp hq with h | h
    · exact hloc q h
    · rw [List.mem_singleton.mp h]
      show (gH G).size ≤ gD G a
      rw [hR.ad hA ha]; omega
  have hin' : ∀ (f : Nat → Value) (cI : ClassId), ¬ (x < 0 ∨ (arrV cI (lmK t a).2 f).slots.size ≤ x.toNatClampNeg) := fun f cI q => by
    rw [arrV_size] at q
    exact q.elim (fun q => h1 (Or.inl q)) (fun q => by omega)
  have cellOf : ∀ k, (lmK t a).1 = k → 50 ≤ k → H[gD G a]? = some (arrV (gA G k) (lmK t a).2 (lAv G t k a)) := fun k hk h => hR.arr ha hk h
  have arrOf : ∀ k, 50 ≤ k → k < 56 → s.isArrayOf (arrV (gA G k) (lmK t a).2 (lAv G t k a)) (aTy k) := fun k h50 h56 => (hK.2.2.1 k h50 h56).1 _ _
  have upI : ∀ (k : Nat) (y : Int32) (hk : k = 50 ∨ k = 52 ∨ k = 53) (q : Nat), lAv G (lmSetI t a x.toNatClampNeg y) k a q = updV (lAv G t k a) x.toNatClampNeg (.int y) q := fun k y hk q => by
    have e0 : lAv G (lmSetI t a x.toNatClampNeg y) k a q = .int (up2 (lmI t) a x.toNatClampNeg y a q) := by rcases hk with rfl | rfl | rfl <;> rfl
    have e1 : lAv G t k a q = .int (lmI t a q) := by rcases hk with rfl | rfl | rfl <;> rfl
    rw [e0]
    unfold up2 updV
    by_cases e : q = x.toNatClampNeg
    · rw [if_pos ⟨rfl, e⟩, if_pos e]
    · rw [if_neg (fun h => e h.2), if_neg e, e1]
  rw [toI_17] at hi
  rcases hs with ⟨rfl, hk, y, rfl, rfl⟩ | ⟨rfl, hk, y, rfl, rfl⟩ | ⟨rfl, hk, b, rfl, hkb, hnb, rfl⟩ | ⟨rfl, hk, y, rfl, rfl⟩ | ⟨rfl, hk, y, rfl, h01, rfl⟩
  · split at hi
    · cases hi
      refine W.iast hx hb (cellOf 50 hk (by omega)) (arrOf 50 (by omega) (by omega)) (fun q => VmData.noConfusion q) (hin' _ _) rfl rfl hd fun H' e1 e2 e3 => ?_
      exact kk H' _ (sm_ast hA hR ha (Prod.ext hk rfl) (by omega) rfl rfl rfl (fun b h => up2_ne h) (fun b h => rfl) (fun b h => rfl) (upI 50 y (Or.inl rfl)) e1 e2 e3) hloc' rfl rfl
    all_goals first | (rename_i hj; exact absurd hj (by decide)) | (rename_i hj _; exact absurd hj (by decide)) | cases hi
  · split at hi
    case h_2 =>
      cases hi
      refine W.last hx hb (cellOf 51 hk (by omega)) (arrOf 51 (by omega) (by omega)) (fun q => VmData.noConfusion q) (hin' _ _) rfl rfl hd fun H' e1 e2 e3 => ?_
      refine kk H' _ (sm_ast hA hR ha (Prod.ext hk rfl) (by omega) rfl rfl rfl (fun b h => rfl) (fun b h => up2_ne h) (fun b h => rfl) (fun q => ?_) e1 e2 e3) hloc' rfl rfl
      show Value.long (up2 (lmL t) a x.toNatClampNeg y a q) = _
      unfold up2 updV
      by_cases e : q = x.toNatClampNeg
      · rw [if_pos ⟨rfl, e⟩, if_pos e]
      · rw [if_neg (fun h => e h.2), if_neg e]; rfl
    all_goals first | (rename_i hj; exact absurd hj (by decide)) | (rename_i hj _; exact absurd hj (by decide)) | cases hi
  · split at hi
    case h_3 =>
      cases hi
      obtain ⟨kA, comp, r1, r2, r3, r4⟩ := (hK.2.2.1 54 (by omega) (by omega)).2
      obtain ⟨cell, c1, c2, c3, c4⟩ := hR.obj hnb hkb (by omega)
      obtain ⟨-, hfc, kC, hkC, hkind⟩ := hK.1 2 (by omega) (by omega)
      obtain ⟨kcomp, hkcomp, -⟩ := Vm.findClass_spec r3
      have ecomp : gC G 2 = comp := Option.some.inj (hfc.symm.trans r3)
      refine W.aast hx hb (cell := arrV (gA G 54) (lmK t a).2 (lAv G t 54 a)) (cv := cell) (k := kA) (kv := kC) (kcomp := kcomp) (comp := comp) (t := .object "TurfBog$State") (cellOf 54 hk (by omega)) (fun q h => VmData.noConfusion h) (fun q => VmData.noConfusion q) r1 r2 rfl hkcomp ⟨fun q => h1 (Or.inl q), by rw [arrV_size]; exact h2⟩ c1 (fun q h => by rw [c3] at h; cases h) (by rw [c2]; exact hkC) (by rw [c2, ecomp]; exact va_asg _ _) rfl rfl hd fun H' e1 e2 e3 => ?_
      refine kk H' _ (sm_ast hA hR ha (Prod.ext hk rfl) (by omega) rfl rfl rfl (fun b h => rfl) (fun b h => rfl) (fun b h => up2_ne h) (fun q => ?_) e1 e2 e3) hloc' rfl rfl
      show lV G (lRef (up2 (lmR t) a x.toNatClampNeg (some b) a q)) = _
      unfold up2 updV
      by_cases e : q = x.toNatClampNeg
      · rw [if_pos ⟨rfl, e⟩, if_pos e]; rfl
      · rw [if_neg (fun h => e h.2), if_neg e]; rfl
    all_goals first | (rename_i hj; exact absurd hj (by decide)) | (rename_i hj _; exact absurd hj (by decide)) | cases hi
  · split at hi
    case h_4 =>
      cases hi
      refine W.bast hx hb (cellOf 52 hk (by omega)) (arrOf 52 (by omega) (by omega)) (fun q => VmData.noConfusion q) (hin' _ _) rfl rfl hd fun H' e1 e2 e3 => ?_
      exact kk H' _ (sm_ast hA hR ha (Prod.ext hk rfl) (by omega) rfl rfl rfl (fun b h => up2_ne h) (fun b h => rfl) (fun b h => rfl) (upI 52 _ (Or.inr (Or.inl rfl))) e1 e2 e3) hloc' rfl rfl
    all_goals first | (rename_i hj; exact absurd hj (by decide)) | (rename_i hj _; exact absurd hj (by decide)) | cases hi
  · split at hi
    case h_4 =>
      cases hi
      refine W.zast hx hb (cellOf 53 hk (by omega)) (arrOf 53 (by omega) (by omega)) (fun q => VmData.noConfusion q) (hin' _ _) rfl rfl hd fun H' e1 e2 e3 => ?_
      have en : narrow .boolean (.int y) = .int y := by rcases h01 with rfl | rfl <;> rfl
      rw [en] at e1
      exact kk H' _ (sm_ast hA hR ha (Prod.ext hk rfl) (by omega) rfl rfl rfl (fun b h => up2_ne h) (fun b h => rfl) (fun b h => rfl) (upI 53 _ (Or.inr (Or.inr rfl))) e1 e2 e3) hloc' rfl rfl
    all_goals first | (rename_i hj; exact absurd hj (by decide)) | (rename_i hj _; exact absurd hj (by decide)) | cases hi
end SA
