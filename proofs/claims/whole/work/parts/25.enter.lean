/-! A METHOD BEGINS; the simulation of a whole frame -/
theorem lg_len (vs : List Value) (G : LG) : (lg_sl (vs.map (lV G))).length = (s_locs vs).length := by
  induction vs with
  | nil => rfl
  | cons v r ih =>
    rw [s_locs, List.map_cons]
    show ((if (lV G v).category = 2 then [Slot.val (lV G v), Slot.second] else [Slot.val (lV G v)]) ++ lg_sl (r.map (lV G))).length = _
    rw [lV_cat]
    cases hv : isL v with
    | true => rw [if_pos ((isL_cat v).mp hv), cond_true, List.length_append, ih]; show 2 + _ = _ + 1 + 1; omega
    | false => rw [if_neg (by rw [isL_cat1 hv]; omega), cond_false, List.length_append, ih]; show 1 + _ = _ + 1; omega
theorem s_locs_mem (G : LG) : ∀ {vs : List Value} {n i : Nat} {v : Value}, (s_locs vs)[i]? = some v → ¬ v = lDead → (n + i, lV G v) ∈ lv_args n (vs.map (lV G))
  | [], _, i, v, h, _ => by simp [s_locs] at h
  | w :: r, n, i, v, h, hd => by
    rw [s_locs] at h
    rw [List.map_cons, lv_args, lV_cat]
    cases hw : isL w with
    | true =>
      rw [hw, cond_true] at h
      rw [if_pos ((isL_cat w).mp hw)]
      match i, h with
      | 0, h => simp at h; subst h; exact List.mem_cons_self
      | 1, h => simp at h; exact absurd h.symm hd
      | k + 2, h =>
        simp at h
        have := s_locs_mem G (n := n + 2) h hd
        rw [show n + 2 + k = n + (k + 2) from by omega] at this
        exact List.mem_cons_of_mem _ this
    | false =>
      rw [hw, cond_false] at h
      rw [if_neg (by rw [isL_cat1 hw]; omega)]
      match i, h with
      | 0, h => simp at h; subst h; exact List.mem_cons_self
      | k + 1, h =>
        simp at h
        have := s_locs_mem G (n := n + 1) h hd
        rw [show n + 1 + k = n + (k + 1) from by omega] at this
        exact List.mem_cons_of_mem _ this
theorem enter_Lv (G : LG) {as ls : List Value} {n : Nat} (h : s_enter n as = some ls) : Lv G ls n (argsToLocals (as.map (lV G)).toArray n) := by
  unfold s_enter at h
  cases hb : Nat.ble (s_locs as).length n with
  | false => rw [hb] at h; cases h
  | true =>
    rw [hb] at h
    cases h
    have hle := Nat.le_of_ble_eq_true hb
    have hE := lv_entry (as.map (lV G)) (n := n) (by rw [lg_len]; exact hle)
    have hT : argsToLocals (as.map (lV G)).toArray n = (lg_sl (as.map (lV G)) ++ List.replicate (n - (lg_sl (as.map (lV G))).length) Slot.unset).toArray := by
      have h1 := lg_entry_eq ⟨0, 0⟩ (as.map (lV G)) n
      exact congrArg JFrame.locals h1
    rw [hT]
    refine ⟨⟨hE.1, hE.2.1, fun q hq => ?_⟩, by rw [List.length_append, List.length_replicate]; omega⟩
    obtain ⟨v, hv, hd, e⟩ := lvE_of hq
    obtain ⟨i, x⟩ := q
    dsimp only at hv e
    subst e
    refine hE.2.2 (i, lV G v) ?_
    rw [List.getElem?_append] at hv
    split at hv
    · have := s_locs_mem G (n := 0) hv hd
      rwa [Nat.zero_add] at this
    · rw [List.getElem?_replicate] at hv
      split at hv
      · cases hv; exact absurd rfl hd
      · cases hv
/-- rows of instance methods: of which classes; handlers -/
def exL : List (Nat × Nat × Nat) := [(19, 13, 14), (19, 15, 15), (19, 24, 16), (19, 26, 17), (19, 38, 18)]
def okHz (own : Nat) : List (Nat × Nat × Nat × Nat) → List (Nat × Nat × Nat × Nat) → Bool
  | [], [] => true
  | h :: hs, q :: qs => Nat.beq h.1 q.1 && Nat.beq h.2.1 q.2.1 && Nat.beq h.2.2.1 q.2.2.1 && exL.elem (own, q.2.2.2, h.2.2.2) && okHz own hs qs
  | _, _ => false
def okRw (r : Mr) : Bool := (r.1.2.2.2.1 || r.1.2.2.2.2 || (Nat.ble 1 r.1.2.2.1 && Nat.ble r.1.2.2.1 13)) && okHz r.1.2.2.1 r.2.2.2.2.1 r.2.2.2.2.2.1 && (plainName (cN r.1.2.2.1) || Nat.beq r.1.2.2.1 21) && Nat.ble r.2.2.1 40 && decide (r.1.2.2.2.2 = decide (r.1.1 = "<init>"))
set_option maxRecDepth 100000 in
theorem yr_0 : mR_0.all okRw = true := by decide +kernel
set_option maxRecDepth 100000 in
theorem yr_1 : mR_1.all okRw = true := by decide +kernel
set_option maxRecDepth 100000 in
theorem yr_2 : mR_2.all okRw = true := by decide +kernel
set_option maxRecDepth 100000 in
theorem yr_3 : mR_3.all okRw = true := by decide +kernel
set_option maxRecDepth 100000 in
theorem yr_4 : mR_4.all okRw = true := by decide +kernel
set_option maxRecDepth 100000 in
theorem yr_5 : mR_5.all okRw = true := by decide +kernel
set_option maxRecDepth 100000 in
theorem yr_6 : mR_6.all okRw = true := by decide +kernel
set_option maxRecDepth 100000 in
theorem yr_7 : mR_7.all okRw = true := by decide +kernel
set_option maxRecDepth 100000 in
theorem yr_8 : mR_8.all okRw = true := by decide +kernel
set_option maxRecDepth 100000 in
theorem yr_9 : mR_9.all okRw = true := by decide +kernel
theorem mRow_okRw {M : Nat} {r : Mr} (h : mRow M = some r) : okRw r = true := by
  have key : ∀ {rs : List Mr} {i : Nat}, rs.all okRw = true → rs[i]? = some r → okRw r = true := fun hl hi => List.all_eq_true.mp hl r (List.mem_of_getElem? hi)
  unfold mRow at h
  split at h
  · exact key yr_0 h
  · exact key yr_1 h
  · exact key yr_2 h
  · exact key yr_3 h
  · exact key yr_4 h
  · exact key yr_5 h
  · exact key yr_6 h
  · exact key yr_7 h
  · exact key yr_8 h
  · exact key yr_9 h
  · cases h
theorem exL_word : ∀ q ∈ exL, Cond.classLink (cN q.1) q.2.1 (cN q.2.2) ∈ lw_tbl ∧ q.2.1 ≠ 0 ∧ 14 ≤ q.2.2 ∧ q.2.2 < 19 := by
  intro q hq
  simp only [exL, List.mem_cons, List.not_mem_nil, or_false] at hq
  rcases hq with rfl | rfl | rfl | rfl | rfl
  · exact ⟨List.mem_of_getElem? (i := 688) (by decide +kernel), by decide, by decide, by decide⟩
  · exact ⟨List.mem_of_getElem? (i := 689) (by decide +kernel), by decide, by decide, by decide⟩
  · exact ⟨List.mem_of_getElem? (i := 995) (by decide +kernel), by decide, by decide, by decide⟩
  · exact ⟨List.mem_of_getElem? (i := 996) (by decide +kernel), by decide, by decide, by decide⟩
  · exact ⟨List.mem_of_getElem? (i := 1119) (by decide +kernel), by decide, by decide, by decide⟩
theorem hRs_of {own : Nat} {s : State} {args : Array Value} (hts : ∀ w ∈ lw_tb2, w.before args s = true) : ∀ {xs : List ExceptionTableEntry} {hl ql : List (Nat × Nat × Nat × Nat)}, okHz own hl ql = true → xs.map (fun h => (h.startPc, h.endPc, h.handlerPc, h.catchType)) = ql → hRs own s args xs hl
  | [], [], [], _, _ => trivial
  | [], [], _ :: _, _, h => by cases h
  | [], _ :: _, [], h, _ => by cases h
  | [], _ :: _, _ :: _, _, h => by cases h
  | _ :: _, _, [], _, h => by cases h
  | _ :: _, [], _ :: _, h, _ => by cases h
  | x :: xs, h :: hl, q :: ql, hk, hm => by
    simp only [okHz, Bool.and_eq_true] at hk
    obtain ⟨⟨⟨⟨h1, h2⟩, h3⟩, h4⟩, h5⟩ := hk
    rw [List.map_cons] at hm
    have hx := (List.cons.inj hm).1
    have ht := (List.cons.inj hm).2
    have h4' := exL_word _ (List.elem_iff.mp h4)
    have e1 : x.startPc = h.1 := by rw [Nat.eq_of_beq_eq_true h1, ← hx]
    have e2 : x.endPc = h.2.1 := by rw [Nat.eq_of_beq_eq_true h2, ← hx]
    have e3 : x.handlerPc = h.2.2.1 := by rw [Nat.eq_of_beq_eq_true h3, ← hx]
    have e4 : x.catchType = q.2.2.2 := by rw [← hx]
    refine ⟨⟨e1, e2, e3, by rw [e4]; exact h4'.2.1, h4'.2.2.1, h4'.2.2.2, by rw [e4]; exact hts _ (tb2 h4'.1 rfl)⟩, hRs_of hts h5 ht⟩
section SR
variable {p : Program} {l : Launch} {e : Env} {R : Room} {s : State} {m : MethodId} {args : Array Value} {below : List Frame} {meth : Method} {c : Code} {H : Heap} {locs : List Loc} {cells slots : Nat} {Q : State → Prop}
variable {cc : ByteArray} {pc len nL : Nat} {re : Array Slot} {G : LG} {ls st : List Value} {t t0 : Lm} {i : Instr} {own : Nat}
theorem recv_cell (hA : Ad G) (hK : Kn G s) (hR : Rep G t H) {a ci : Nat} (hka : (lmK t a).1 = ci) (h1 : 1 ≤ ci) (h13 : ci ≤ 13) : ∃ cell : Cell, H[gD G a]? = some cell ∧ cell.vm.isStatics = false ∧ s.vm.findClass (cN ci) = some cell.cls := by
  have hne : ¬ (lmK t a).1 = 0 := by rw [hka]; omega
  rcases hR.lt hne with ha | ha
  · have hc : ci < 13 := by
      rcases Nat.lt_or_ge ci 13 with q | q
      · exact q
      · exfalso
        have := hR.2.2.2.1 a ha
        unfold lCell at this
        rw [hka, if_neg (by omega), if_pos (by omega)] at this
        omega
    obtain ⟨cell, q1, q2, q3, -⟩ := hR.obj ha hka hc
    exact ⟨cell, q1, by rw [q3]; rfl, by rw [q2]; exact (hK.1 ci h1 hc).2.1⟩
  · have hs := (hR.2.2.2.2.2.2 a ha).1
    have hne2 : ¬ (lmK (gS G) a).1 = 0 := by rw [← hs]; exact hne
    have h2 := hA.2 a ha hne2
    rw [← hs, hka] at h2
    have hc : ci = 13 := by rcases h2.2 with q | q <;> omega
    subst hc
    obtain ⟨⟨cell, q1, q2, q3, -⟩, -⟩ := (hK.2.2.2.2.1 a ha).1 (by rw [← hs]; exact hka)
    exact ⟨cell, by rw [hR.2.2.2.2.1 _ h2.1]; exact q1, q2, q3⟩
def RQ2 (below : List Frame) (G : LG) (t0 : Lm) (s : State) (o : Lo) (t' : Lm) : State → Prop := fun T => RQ below G t0 s o t' T ∧ lmN t0 ≤ lmN t' ∧ lmS t0 ≤ lmS t' ∧ ∀ x, o = .inr x → x < lmN t' ∧ 14 ≤ (lmK t' x).1 ∧ (lmK t' x).1 < 19
def CtrD (l : Launch) (G : LG) (N d : Nat) : Prop := ∀ M as t o t', s_callB mTab N d M as t = some (o, t') → M < 369 → ∀ r, mRow M = some r → r.1.2.2.1 ≠ 21 → Ctr l G d r as t o t'
def okS21 (c : Nat) : Bool := (lkl c).all fun ch => ch.2.all fun q => !(Nat.beq q.2.1.1 50) || !(Nat.beq (q.2.1.2.2 % 100) 21)
theorem okS21_all : (List.range 27).all okS21 = true := by decide +kernel
theorem lk_no21 {c i M b : Nat} (h : lk c i = some (50, M, b)) : b % 100 ≠ 21 := by
  have := List.all_eq_true.mp okS21_all c (List.mem_range.mpr (lk_lt h))
  obtain ⟨n, hn⟩ := lk_at_all this h
  simp only [show Nat.beq 50 50 = true from rfl, Bool.not_true, Bool.false_or] at hn
  intro q
  rw [q] at hn
  cases hn
theorem s_args_spec {n : Nat} {st as r : List Value} (h : s_args n st = some (as, r)) : st = as.reverse ++ r ∧ as.length = n ∧ r.length ≤ 12 := by
  unfold s_args at h
  cases hb : (Nat.ble n st.length && Nat.ble (st.length - n) 12) with
  | false => rw [hb] at h; cases h
  | true =>
    rw [hb, cond_true] at h
    simp only [Bool.and_eq_true] at hb
    have h1 := Nat.le_of_ble_eq_true hb.1
    have h2 := Nat.le_of_ble_eq_true hb.2
    cases h
    refine ⟨by rw [List.reverse_reverse, List.take_append_drop], by rw [List.length_reverse, List.length_take]; omega, by rw [List.length_drop]; exact h2⟩
/-- what a step that calls says -/
theorem s_do_call {F : Lf} {q : Li} {M pc' : Nat} {as r : List Value} (h : s_do F q len pc ls st t = some (.inr (.inl (M, as, pc', r)))) : ∃ b, q.1 = 23 ∧ F.2.2.2.2.1 q.2.2.1 = some (50, M, b) ∧ s_args (b / 100 % 100) st = some (as, r) ∧ pc' = pc + 3 ∧ q.2.1 = b / 10000 ∧ (q.2.1 = 2 ∨ s_recv t (b % 100) as = true) := by
  obtain ⟨g, j, k, z, ts⟩ := q
  have kill : ∀ {α : Type} {o : Option α} {f : α → Option Lx} {X : Nat × List Value × Nat × List Value}, (∀ v, f v ≠ some (.inr (.inl X))) → o.bind f ≠ some (.inr (.inl X)) := fun hf h => by
    obtain ⟨v, -, h2⟩ := Option.bind_eq_some_iff.mp h
    exact hf v h2
  match g, h with
  | 23, h =>
    obtain ⟨q, hq, h⟩ := Option.bind_eq_some_iff.mp (show (F.2.2.2.2.1 k).bind _ = _ from h)
    obtain ⟨q1, q2, q3⟩ := q
    match q1, h, hq with
    | 50, h, hq =>
      obtain ⟨v, hv, h⟩ := Option.bind_eq_some_iff.mp (show (s_args _ st).bind _ = _ from h)
      cases hc : (Nat.beq j (q3 / 10000) && (Nat.beq j 2 || s_recv t (q3 % 100) v.1)) with
      | false => rw [hc] at h; cases h
      | true =>
        rw [hc] at h
        cases h
        simp only [Bool.and_eq_true, Bool.or_eq_true] at hc
        refine ⟨q3, rfl, hq, hv, rfl, Nat.eq_of_beq_eq_true hc.1, ?_⟩
        rcases hc.2 with q | q
        · exact Or.inl (Nat.eq_of_beq_eq_true q)
        · exact Or.inr q
    | 51, h, hq =>
      exfalso
      simp only [s_call] at h
      repeat' split at h
      all_goals first | (cases h; done) | (rename_i hc; revert h; cases (_ : Bool) <;> intro h <;> cases h; done) | skip
      all_goals (revert h; simp [Bool.cond_eq_ite, Option.bind_eq_some_iff])
    | 52, h, hq =>
      exfalso
      simp only [s_call] at h
      repeat' split at h
      all_goals first | (cases h; done) | (rename_i hc; revert h; cases (_ : Bool) <;> intro h <;> cases h; done) | skip
      all_goals (revert h; simp [Bool.cond_eq_ite, Option.bind_eq_some_iff])
    | 53, h, hq =>
      exfalso
      simp only [s_call] at h
      repeat' split at h
      all_goals first | (cases h; done) | (rename_i hc; revert h; cases (_ : Bool) <;> intro h <;> cases h; done) | skip
      all_goals (revert h; simp [Bool.cond_eq_ite, Option.bind_eq_some_iff])
    | 54, h, hq =>
      exfalso
      simp only [s_call] at h
      repeat' split at h
      all_goals first | (cases h; done) | (rename_i hc; revert h; cases (_ : Bool) <;> intro h <;> cases h; done) | skip
      all_goals (revert h; simp [Bool.cond_eq_ite, Option.bind_eq_some_iff])
    | 55, h, hq =>
      exfalso
      simp only [s_call] at h
      repeat' split at h
      all_goals first | (cases h; done) | (rename_i hc; revert h; cases (_ : Bool) <;> intro h <;> cases h; done) | skip
      all_goals (revert h; simp [Bool.cond_eq_ite, Option.bind_eq_some_iff])
    | 56, h, hq =>
      exfalso
      simp only [s_call] at h
      repeat' split at h
      all_goals first | (cases h; done) | (rename_i hc; revert h; cases (_ : Bool) <;> intro h <;> cases h; done) | skip
      all_goals (revert h; simp [Bool.cond_eq_ite, Option.bind_eq_some_iff])
    | 57, h, hq =>
      exfalso
      simp only [s_call] at h
      repeat' split at h
      all_goals first | (cases h; done) | (rename_i hc; revert h; cases (_ : Bool) <;> intro h <;> cases h; done) | skip
      all_goals (revert h; simp [Bool.cond_eq_ite, Option.bind_eq_some_iff])
    | 58, h, hq =>
      exfalso
      simp only [s_call] at h
      repeat' split at h
      all_goals first | (cases h; done) | (rename_i hc; revert h; cases (_ : Bool) <;> intro h <;> cases h; done) | skip
      all_goals (revert h; simp [Bool.cond_eq_ite, Option.bind_eq_some_iff])
    | n + 59, h, hq => cases h
  | 0, h =>
    exfalso
    simp only [s_do] at h
    repeat' split at h
    all_goals first | (cases h; done) | skip
    all_goals (revert h; simp [Bool.cond_eq_ite, Option.bind_eq_some_iff, s_ret])
  | 1, h =>
    exfalso
    simp only [s_do] at h
    repeat' split at h
    all_goals first | (cases h; done) | skip
    all_goals (revert h; simp [Bool.cond_eq_ite, Option.bind_eq_some_iff, s_ret])
  | 2, h =>
    exfalso
    simp only [s_do] at h
    repeat' split at h
    all_goals first | (cases h; done) | skip
    all_goals (revert h; simp [Bool.cond_eq_ite, Option.bind_eq_some_iff, s_ret])
  | 3, h =>
    exfalso
    simp only [s_do] at h
    repeat' split at h
    all_goals first | (cases h; done) | skip
    all_goals (revert h; simp [Bool.cond_eq_ite, Option.bind_eq_some_iff, s_ret])
  | 4, h =>
    exfalso
    simp only [s_do] at h
    repeat' split at h
    all_goals first | (cases h; done) | skip
    all_goals (revert h; simp [Bool.cond_eq_ite, Option.bind_eq_some_iff, s_ret])
  | 5, h =>
    exfalso
    simp only [s_do] at h
    repeat' split at h
    all_goals first | (cases h; done) | skip
    all_goals (revert h; simp [Bool.cond_eq_ite, Option.bind_eq_some_iff, s_ret])
  | 6, h =>
    exfalso
    simp only [s_do] at h
    repeat' split at h
    all_goals first | (cases h; done) | skip
    all_goals (revert h; simp [Bool.cond_eq_ite, Option.bind_eq_some_iff, s_ret])
  | 7, h =>
    exfalso
    simp only [s_do] at h
    repeat' split at h
    all_goals first | (cases h; done) | skip
    all_goals (revert h; simp [Bool.cond_eq_ite, Option.bind_eq_some_iff, s_ret])
  | 8, h =>
    exfalso
    simp only [s_do] at h
    repeat' split at h
    all_goals first | (cases h; done) | skip
    all_goals (revert h; simp [Bool.cond_eq_ite, Option.bind_eq_some_iff, s_ret])
  | 9, h =>
    exfalso
    simp only [s_do] at h
    repeat' split at h
    all_goals first | (cases h; done) | skip
    all_goals (revert h; simp [Bool.cond_eq_ite, Option.bind_eq_some_iff, s_ret])
  | 10, h =>
    exfalso
    simp only [s_do] at h
    repeat' split at h
    all_goals first | (cases h; done) | skip
    all_goals (revert h; simp [Bool.cond_eq_ite, Option.bind_eq_some_iff, s_ret])
  | 11, h =>
    exfalso
    simp only [s_do] at h
    repeat' split at h
    all_goals first | (cases h; done) | skip
    all_goals (revert h; simp [Bool.cond_eq_ite, Option.bind_eq_some_iff, s_ret])
  | 12, h =>
    exfalso
    simp only [s_do] at h
    repeat' split at h
    all_goals first | (cases h; done) | skip
    all_goals (revert h; simp [Bool.cond_eq_ite, Option.bind_eq_some_iff, s_ret])
  | 13, h =>
    exfalso
    simp only [s_do] at h
    repeat' split at h
    all_goals first | (cases h; done) | skip
    all_goals (revert h; simp [Bool.cond_eq_ite, Option.bind_eq_some_iff, s_ret])
  | 14, h =>
    exfalso
    simp only [s_do] at h
    repeat' split at h
    all_goals first | (cases h; done) | skip
    all_goals (revert h; simp [Bool.cond_eq_ite, Option.bind_eq_some_iff, s_ret])
  | 15, h =>
    exfalso
    simp only [s_do] at h
    repeat' split at h
    all_goals first | (cases h; done) | skip
    all_goals (revert h; simp [Bool.cond_eq_ite, Option.bind_eq_some_iff, s_ret])
  | 16, h =>
    exfalso
    simp only [s_do] at h
    repeat' split at h
    all_goals first | (cases h; done) | skip
    all_goals (revert h; simp [Bool.cond_eq_ite, Option.bind_eq_some_iff, s_ret])
  | 17, h =>
    exfalso
    simp only [s_do] at h
    repeat' split at h
    all_goals first | (cases h; done) | skip
    all_goals (revert h; simp [Bool.cond_eq_ite, Option.bind_eq_some_iff, s_ret])
  | 18, h =>
    exfalso
    simp only [s_do] at h
    repeat' split at h
    all_goals first | (cases h; done) | skip
    all_goals (revert h; simp [Bool.cond_eq_ite, Option.bind_eq_some_iff, s_ret])
  | 19, h =>
    exfalso
    simp only [s_do] at h
    repeat' split at h
    all_goals first | (cases h; done) | skip
    all_goals (revert h; simp [Bool.cond_eq_ite, Option.bind_eq_some_iff, s_ret])
  | 20, h =>
    exfalso
    simp only [s_do] at h
    repeat' split at h
    all_goals first | (cases h; done) | skip
    all_goals (revert h; simp [Bool.cond_eq_ite, Option.bind_eq_some_iff, s_ret])
  | 21, h =>
    exfalso
    simp only [s_do] at h
    repeat' split at h
    all_goals first | (cases h; done) | skip
    all_goals (revert h; simp [Bool.cond_eq_ite, Option.bind_eq_some_iff, s_ret])
  | 22, h =>
    exfalso
    simp only [s_do] at h
    repeat' split at h
    all_goals first | (cases h; done) | skip
    all_goals (revert h; simp [Bool.cond_eq_ite, Option.bind_eq_some_iff, s_ret])
  | 24, h =>
    exfalso
    simp only [s_do, s_ret] at h
    repeat' split at h
    all_goals first | (cases h; done) | skip
    all_goals (revert h; simp [Bool.cond_eq_ite, Option.bind_eq_some_iff, s_ret])
  | 25, h =>
    exfalso
    simp only [s_do] at h
    repeat' split at h
    all_goals first | (cases h; done) | skip
    all_goals (revert h; simp [Bool.cond_eq_ite, Option.bind_eq_some_iff, s_ret])
  | 26, h =>
    exfalso
    simp only [s_do] at h
    repeat' split at h
    all_goals first | (cases h; done) | skip
    all_goals (revert h; simp [Bool.cond_eq_ite, Option.bind_eq_some_iff, s_ret])
  | g + 27, h => cases h
theorem s_do_ret {F : Lf} {q : Li} {v : Option Value} (h : s_do F q len pc ls st t = some (.inr (.inr (.inl v)))) : q.1 = 24 ∧ s_ret F.2.2.1 q.2.1 st = some (.inr (.inr (.inl v))) := by
  obtain ⟨g, j, k, z, ts⟩ := q
  match g, h with
  | 24, h => exact ⟨rfl, h⟩
  | 23, h =>
    exfalso
    obtain ⟨q, hq, h⟩ := Option.bind_eq_some_iff.mp (show (F.2.2.2.2.1 k).bind _ = _ from h)
    simp only [s_call] at h
    repeat' split at h
    all_goals first | (cases h; done) | skip
    all_goals (revert h; simp [Bool.cond_eq_ite, Option.bind_eq_some_iff])
  | 0, h =>
    exfalso
    simp only [s_do, s_ret] at h
    repeat' split at h
    all_goals first | (cases h; done) | skip
    all_goals (revert h; simp [Bool.cond_eq_ite, Option.bind_eq_some_iff])
  | 1, h =>
    exfalso
    simp only [s_do, s_ret] at h
    repeat' split at h
    all_goals first | (cases h; done) | skip
    all_goals (revert h; simp [Bool.cond_eq_ite, Option.bind_eq_some_iff])
  | 2, h =>
    exfalso
    simp only [s_do, s_ret] at h
    repeat' split at h
    all_goals first | (cases h; done) | skip
    all_goals (revert h; simp [Bool.cond_eq_ite, Option.bind_eq_some_iff])
  | 3, h =>
    exfalso
    simp only [s_do, s_ret] at h
    repeat' split at h
    all_goals first | (cases h; done) | skip
    all_goals (revert h; simp [Bool.cond_eq_ite, Option.bind_eq_some_iff])
  | 4, h =>
    exfalso
    simp only [s_do, s_ret] at h
    repeat' split at h
    all_goals first | (cases h; done) | skip
    all_goals (revert h; simp [Bool.cond_eq_ite, Option.bind_eq_some_iff])
  | 5, h =>
    exfalso
    simp only [s_do, s_ret] at h
    repeat' split at h
    all_goals first | (cases h; done) | skip
    all_goals (revert h; simp [Bool.cond_eq_ite, Option.bind_eq_some_iff])
  | 6, h =>
    exfalso
    simp only [s_do, s_ret] at h
    repeat' split at h
    all_goals first | (cases h; done) | skip
    all_goals (revert h; simp [Bool.cond_eq_ite, Option.bind_eq_some_iff])
  | 7, h =>
    exfalso
    simp only [s_do, s_ret] at h
    repeat' split at h
    all_goals first | (cases h; done) | skip
    all_goals (revert h; simp [Bool.cond_eq_ite, Option.bind_eq_some_iff])
  | 8, h =>
    exfalso
    simp only [s_do, s_ret] at h
    repeat' split at h
    all_goals first | (cases h; done) | skip
    all_goals (revert h; simp [Bool.cond_eq_ite, Option.bind_eq_some_iff])
  | 9, h =>
    exfalso
    simp only [s_do, s_ret] at h
    repeat' split at h
    all_goals first | (cases h; done) | skip
    all_goals (revert h; simp [Bool.cond_eq_ite, Option.bind_eq_some_iff])
  | 10, h =>
    exfalso
    simp only [s_do, s_ret] at h
    repeat' split at h
    all_goals first | (cases h; done) | skip
    all_goals (revert h; simp [Bool.cond_eq_ite, Option.bind_eq_some_iff])
  | 11, h =>
    exfalso
    simp only [s_do, s_ret] at h
    repeat' split at h
    all_goals first | (cases h; done) | skip
    all_goals (revert h; simp [Bool.cond_eq_ite, Option.bind_eq_some_iff])
  | 12, h =>
    exfalso
    simp only [s_do, s_ret] at h
    repeat' split at h
    all_goals first | (cases h; done) | skip
    all_goals (revert h; simp [Bool.cond_eq_ite, Option.bind_eq_some_iff])
  | 13, h =>
    exfalso
    simp only [s_do, s_ret] at h
    repeat' split at h
    all_goals first | (cases h; done) | skip
    all_goals (revert h; simp [Bool.cond_eq_ite, Option.bind_eq_some_iff])
  | 14, h =>
    exfalso
    simp only [s_do, s_ret] at h
    repeat' split at h
    all_goals first | (cases h; done) | skip
    all_goals (revert h; simp [Bool.cond_eq_ite, Option.bind_eq_some_iff])
  | 15, h =>
    exfalso
    simp only [s_do, s_ret] at h
    repeat' split at h
    all_goals first | (cases h; done) | skip
    all_goals (revert h; simp [Bool.cond_eq_ite, Option.bind_eq_some_iff])
  | 16, h =>
    exfalso
    simp only [s_do, s_ret] at h
    repeat' split at h
    all_goals first | (cases h; done) | skip
    all_goals (revert h; simp [Bool.cond_eq_ite, Option.bind_eq_some_iff])
  | 17, h =>
    exfalso
    simp only [s_do, s_ret] at h
    repeat' split at h
    all_goals first | (cases h; done) | skip
    all_goals (revert h; simp [Bool.cond_eq_ite, Option.bind_eq_some_iff])
  | 18, h =>
    exfalso
    simp only [s_do, s_ret] at h
    repeat' split at h
    all_goals first | (cases h; done) | skip
    all_goals (revert h; simp [Bool.cond_eq_ite, Option.bind_eq_some_iff])
  | 19, h =>
    exfalso
    simp only [s_do, s_ret] at h
    repeat' split at h
    all_goals first | (cases h; done) | skip
    all_goals (revert h; simp [Bool.cond_eq_ite, Option.bind_eq_some_iff])
  | 20, h =>
    exfalso
    simp only [s_do, s_ret] at h
    repeat' split at h
    all_goals first | (cases h; done) | skip
    all_goals (revert h; simp [Bool.cond_eq_ite, Option.bind_eq_some_iff])
  | 21, h =>
    exfalso
    simp only [s_do, s_ret] at h
    repeat' split at h
    all_goals first | (cases h; done) | skip
    all_goals (revert h; simp [Bool.cond_eq_ite, Option.bind_eq_some_iff])
  | 22, h =>
    exfalso
    simp only [s_do, s_ret] at h
    repeat' split at h
    all_goals first | (cases h; done) | skip
    all_goals (revert h; simp [Bool.cond_eq_ite, Option.bind_eq_some_iff])
  | 25, h =>
    exfalso
    simp only [s_do, s_ret] at h
    repeat' split at h
    all_goals first | (cases h; done) | skip
    all_goals (revert h; simp [Bool.cond_eq_ite, Option.bind_eq_some_iff])
  | 26, h =>
    exfalso
    simp only [s_do, s_ret] at h
    repeat' split at h
    all_goals first | (cases h; done) | skip
    all_goals (revert h; simp [Bool.cond_eq_ite, Option.bind_eq_some_iff])
  | g + 27, h => cases h
theorem s_do_thr {F : Lf} {q : Li} {a : Nat} (h : s_do F q len pc ls st t = some (.inr (.inr (.inr a)))) : q.1 = 25 ∧ (∃ r, st = .ref a :: r) ∧ a < lmN t ∧ 14 ≤ (lmK t a).1 ∧ (lmK t a).1 < 19 := by
  obtain ⟨g, j, k, z, ts⟩ := q
  match g, h with
  | 25, h =>
    match st, h with
    | .ref a' :: r, h =>
      have h : (bif Nat.blt a' (lmN t) && Nat.ble 14 (lmK t a').1 && Nat.blt (lmK t a').1 19 then (some (.inr (.inr (.inr a'))) : Option Lx) else none) = some (.inr (.inr (.inr a))) := h
      cases hc : (Nat.blt a' (lmN t) && Nat.ble 14 (lmK t a').1 && Nat.blt (lmK t a').1 19) with
      | false => rw [hc] at h; cases h
      | true =>
        rw [hc] at h
        cases h
        simp only [Bool.and_eq_true] at hc
        exact ⟨rfl, ⟨r, rfl⟩, Nat.blt_eq.mp hc.1.1, Nat.le_of_ble_eq_true hc.1.2, Nat.blt_eq.mp hc.2⟩
  | 23, h =>
    exfalso
    obtain ⟨q, hq, h⟩ := Option.bind_eq_some_iff.mp (show (F.2.2.2.2.1 k).bind _ = _ from h)
    simp only [s_call] at h
    repeat' split at h
    all_goals first | (cases h; done) | skip
    all_goals (revert h; simp [Bool.cond_eq_ite, Option.bind_eq_some_iff])
  | 0, h =>
    exfalso
    simp only [s_do, s_ret] at h
    repeat' split at h
    all_goals first | (cases h; done) | skip
    all_goals (revert h; simp [Bool.cond_eq_ite, Option.bind_eq_some_iff])
  | 1, h =>
    exfalso
    simp only [s_do, s_ret] at h
    repeat' split at h
    all_goals first | (cases h; done) | skip
    all_goals (revert h; simp [Bool.cond_eq_ite, Option.bind_eq_some_iff])
  | 2, h =>
    exfalso
    simp only [s_do, s_ret] at h
    repeat' split at h
    all_goals first | (cases h; done) | skip
    all_goals (revert h; simp [Bool.cond_eq_ite, Option.bind_eq_some_iff])
  | 3, h =>
    exfalso
    simp only [s_do, s_ret] at h
    repeat' split at h
    all_goals first | (cases h; done) | skip
    all_goals (revert h; simp [Bool.cond_eq_ite, Option.bind_eq_some_iff])
  | 4, h =>
    exfalso
    simp only [s_do, s_ret] at h
    repeat' split at h
    all_goals first | (cases h; done) | skip
    all_goals (revert h; simp [Bool.cond_eq_ite, Option.bind_eq_some_iff])
  | 5, h =>
    exfalso
    simp only [s_do, s_ret] at h
    repeat' split at h
    all_goals first | (cases h; done) | skip
    all_goals (revert h; simp [Bool.cond_eq_ite, Option.bind_eq_some_iff])
  | 6, h =>
    exfalso
    simp only [s_do, s_ret] at h
    repeat' split at h
    all_goals first | (cases h; done) | skip
    all_goals (revert h; simp [Bool.cond_eq_ite, Option.bind_eq_some_iff])
  | 7, h =>
    exfalso
    simp only [s_do, s_ret] at h
    repeat' split at h
    all_goals first | (cases h; done) | skip
    all_goals (revert h; simp [Bool.cond_eq_ite, Option.bind_eq_some_iff])
  | 8, h =>
    exfalso
    simp only [s_do, s_ret] at h
    repeat' split at h
    all_goals first | (cases h; done) | skip
    all_goals (revert h; simp [Bool.cond_eq_ite, Option.bind_eq_some_iff])
  | 9, h =>
    exfalso
    simp only [s_do, s_ret] at h
    repeat' split at h
    all_goals first | (cases h; done) | skip
    all_goals (revert h; simp [Bool.cond_eq_ite, Option.bind_eq_some_iff])
  | 10, h =>
    exfalso
    simp only [s_do, s_ret] at h
    repeat' split at h
    all_goals first | (cases h; done) | skip
    all_goals (revert h; simp [Bool.cond_eq_ite, Option.bind_eq_some_iff])
  | 11, h =>
    exfalso
    simp only [s_do, s_ret] at h
    repeat' split at h
    all_goals first | (cases h; done) | skip
    all_goals (revert h; simp [Bool.cond_eq_ite, Option.bind_eq_some_iff])
  | 12, h =>
    exfalso
    simp only [s_do, s_ret] at h
    repeat' split at h
    all_goals first | (cases h; done) | skip
    all_goals (revert h; simp [Bool.cond_eq_ite, Option.bind_eq_some_iff])
  | 13, h =>
    exfalso
    simp only [s_do, s_ret] at h
    repeat' split at h
    all_goals first | (cases h; done) | skip
    all_goals (revert h; simp [Bool.cond_eq_ite, Option.bind_eq_some_iff])
  | 14, h =>
    exfalso
    simp only [s_do, s_ret] at h
    repeat' split at h
    all_goals first | (cases h; done) | skip
    all_goals (revert h; simp [Bool.cond_eq_ite, Option.bind_eq_some_iff])
  | 15, h =>
    exfalso
    simp only [s_do, s_ret] at h
    repeat' split at h
    all_goals first | (cases h; done) | skip
    all_goals (revert h; simp [Bool.cond_eq_ite, Option.bind_eq_some_iff])
  | 16, h =>
    exfalso
    simp only [s_do, s_ret] at h
    repeat' split at h
    all_goals first | (cases h; done) | skip
    all_goals (revert h; simp [Bool.cond_eq_ite, Option.bind_eq_some_iff])
  | 17, h =>
    exfalso
    simp only [s_do, s_ret] at h
    repeat' split at h
    all_goals first | (cases h; done) | skip
    all_goals (revert h; simp [Bool.cond_eq_ite, Option.bind_eq_some_iff])
  | 18, h =>
    exfalso
    simp only [s_do, s_ret] at h
    repeat' split at h
    all_goals first | (cases h; done) | skip
    all_goals (revert h; simp [Bool.cond_eq_ite, Option.bind_eq_some_iff])
  | 19, h =>
    exfalso
    simp only [s_do, s_ret] at h
    repeat' split at h
    all_goals first | (cases h; done) | skip
    all_goals (revert h; simp [Bool.cond_eq_ite, Option.bind_eq_some_iff])
  | 20, h =>
    exfalso
    simp only [s_do, s_ret] at h
    repeat' split at h
    all_goals first | (cases h; done) | skip
    all_goals (revert h; simp [Bool.cond_eq_ite, Option.bind_eq_some_iff])
  | 21, h =>
    exfalso
    simp only [s_do, s_ret] at h
    repeat' split at h
    all_goals first | (cases h; done) | skip
    all_goals (revert h; simp [Bool.cond_eq_ite, Option.bind_eq_some_iff])
  | 22, h =>
    exfalso
    simp only [s_do, s_ret] at h
    repeat' split at h
    all_goals first | (cases h; done) | skip
    all_goals (revert h; simp [Bool.cond_eq_ite, Option.bind_eq_some_iff])
  | 24, h =>
    exfalso
    simp only [s_do, s_ret] at h
    repeat' split at h
    all_goals first | (cases h; done) | skip
    all_goals (revert h; simp [Bool.cond_eq_ite, Option.bind_eq_some_iff])
  | 26, h =>
    exfalso
    simp only [s_do, s_ret] at h
    repeat' split at h
    all_goals first | (cases h; done) | skip
    all_goals (revert h; simp [Bool.cond_eq_ite, Option.bind_eq_some_iff])
  | g + 27, h => cases h
end SR
