/-! THE STEPS: instructions that neither read nor write the heap -/
section SM
variable {p : Program} {l : Launch} {e : Env} {R : Room} {s : State} {m : MethodId} {args : Array Value} {below : List Frame} {meth : Method} {c : Code} {H : Heap} {locs : List Loc} {cells slots : Nat} {Q : State → Prop}
variable {cc : ByteArray} {pc len nL : Nat} {re : Array Slot} {G : LG} {ls st : List Value} {t : Lm} {i : Instr}
theorem Lv.some {G : LG} {ls : List Value} {nL : Nat} {re : Array Slot} (h : Lv G ls nL re) {j k : Nat} {v : Value} (hs : s_load j k ls = some v) : re[k]? = some (.val (lV G v)) ∧ s_fit j v = true := by
  unfold s_load at hs
  cases hv : ls[k]? with
  | none => rw [hv] at hs; cases hs
  | some w =>
    rw [hv] at hs
    cases hb : s_fit j w with
    | false => simp only [hb, cond_false] at hs; cases hs
    | true =>
      simp only [hb, cond_true] at hs
      cases hs
      refine ⟨h.at hv (fun q => ?_), hb⟩
      subst q
      match j, hb with
      | 0, hb => cases hb
      | 1, hb => cases hb
      | 2, hb => cases hb
theorem sm_cst (hx : p.tables.exec = Jvm.exec) (hb : c.code = cc) {j k : Nat} {z : Int} {ts : List Nat} {v : Value} (hi : toI pc len (0, j, k, z, ts) = some i) (hd : decode cc pc = .ok (i, len)) (hs : s_cst j k z = some v)
    (kk : W p l e R s m args below meth c H locs cells slots Q (F0 m (pc + len) re (lV G v :: st))) : W p l e R s m args below meth c H locs cells slots Q (F0 m pc re st) := by
  rw [toI_0] at hi
  split at hi
  · cases hi; cases hs; exact lv_iconst hx hb hd rfl kk
  · cases hi; cases hs; exact lv_bipush hx hb hd rfl kk
  · cases hi; cases hs; exact lv_sipush hx hb hd rfl kk
  · split at hi
    · cases hi; cases hs; exact lv_lconst hx hb hd rfl kk
    · cases hi
  · cases hi; cases hs; exact lv_null hx hb hd kk
  · cases hi
theorem isI_of {v : Value} (h : isI v = true) : ∃ x, v = .int x := by cases v <;> first | exact ⟨_, rfl⟩ | cases h
theorem isA_of {v : Value} (h : isA v = true) : v = .null ∨ ∃ a, v = .ref a := by cases v <;> first | exact Or.inl rfl | exact Or.inr ⟨_, rfl⟩ | cases h
theorem isL_of {v : Value} (h : s_fit 1 v = true) : ∃ x, v = .long x := by cases v <;> first | exact ⟨_, rfl⟩ | cases h
theorem f4_of {k : Nat} {f : Fin 4 → Instr} {i : Instr} (h : f4 k f = some i) : ∃ q : Fin 4, i = f q ∧ (q : Nat) = k := by
  unfold f4 at h
  split at h
  · cases h; exact ⟨_, rfl, rfl⟩
  · cases h
theorem sm_load (hx : p.tables.exec = Jvm.exec) (hb : c.code = cc) (hL : Lv G ls nL re) {j k : Nat} {z : Int} {ts : List Nat} {v : Value} (hi : toI pc len (1, j, k, z, ts) = some i) (hd : decode cc pc = .ok (i, len)) (hs : s_load j k ls = some v)
    (kk : W p l e R s m args below meth c H locs cells slots Q (F0 m (pc + len) re (lV G v :: st))) : W p l e R s m args below meth c H locs cells slots Q (F0 m pc re st) := by
  obtain ⟨hr, hf⟩ := hL.some hs
  rw [toI_1] at hi
  split at hi
  · cases hi
    obtain ⟨x, rfl⟩ := isI_of hf
    exact lv_iload hx hb hd hr kk
  · obtain ⟨q, rfl, hq⟩ := f4_of hi
    obtain ⟨x, rfl⟩ := isI_of hf
    exact lv_iload_n hx hb hd hq hr kk
  · cases hi
    obtain ⟨x, rfl⟩ := isL_of hf
    exact lv_lload hx hb hd hr kk
  · obtain ⟨q, rfl, hq⟩ := f4_of hi
    obtain ⟨x, rfl⟩ := isL_of hf
    exact lv_lload_n hx hb hd hq hr kk
  · cases hi
    rcases isA_of hf with rfl | ⟨x, rfl⟩
    · exact lv_aloadN hx hb hd hr kk
    · exact lv_aload hx hb hd hr kk
  · obtain ⟨q, rfl, hq⟩ := f4_of hi
    rcases isA_of hf with rfl | ⟨x, rfl⟩
    · exact lv_aload_nN hx hb hd hq hr kk
    · exact lv_aload_n hx hb hd hq hr kk
  · cases hi
theorem s_store_0 {k : Nat} {ls ls' : List Value} {v : Value} {j : Nat} (hj : j = 0 ∨ j = 2) (hs : s_store j k ls v = some ls') : s_fit j v = true ∧ k < ls.length ∧ ls' = lSet ls k v := by
  unfold s_store at hs
  cases hf : s_fit j v with
  | false => simp only [hf, cond_false] at hs; cases hs
  | true =>
    simp only [hf, cond_true] at hs
    cases hb : Nat.blt k ls.length with
    | false => rcases hj with rfl | rfl <;> simp only [hb, cond_false] at hs <;> cases hs
    | true =>
      have hk : k < ls.length := Nat.blt_eq.mp hb
      rcases hj with rfl | rfl <;> simp only [hb, cond_true] at hs <;> cases hs <;> exact ⟨rfl, hk, rfl⟩
theorem s_store_1 {k : Nat} {ls ls' : List Value} {v : Value} (hs : s_store 1 k ls v = some ls') : s_fit 1 v = true ∧ k + 1 < ls.length ∧ ls' = lSet2 ls k v := by
  unfold s_store at hs
  cases hf : s_fit 1 v with
  | false => simp only [hf, cond_false] at hs; cases hs
  | true =>
    simp only [hf, cond_true] at hs
    cases hb : Nat.blt (k + 1) ls.length with
    | false => simp only [hb, cond_false] at hs; cases hs
    | true =>
      have hk : k + 1 < ls.length := Nat.blt_eq.mp hb
      simp only [hb, cond_true] at hs
      cases hs
      exact ⟨rfl, hk, rfl⟩
theorem sm_store (hx : p.tables.exec = Jvm.exec) (hb : c.code = cc) (hL : Lv G ls nL re) {j k : Nat} {z : Int} {ts : List Nat} {v : Value} {ls' : List Value} (hi : toI pc len (2, j, k, z, ts) = some i) (hd : decode cc pc = .ok (i, len)) (hs : s_store j k ls v = some ls')
    (kk : ∀ re', Lv G ls' nL re' → W p l e R s m args below meth c H locs cells slots Q (F0 m (pc + len) re' st)) : W p l e R s m args below meth c H locs cells slots Q (F0 m pc re (lV G v :: st)) := by
  have hlen : ls.length = nL := hL.2
  rw [toI_2] at hi
  split at hi
  · cases hi
    obtain ⟨hf, hk, rfl⟩ := s_store_0 (Or.inl rfl) hs
    obtain ⟨x, rfl⟩ := isI_of hf
    exact lv_istore hx hb hd hL.1 (by omega) rfl (fun re' h' => kk re' (Lv.store1 (v := .int x) hlen h'))
  · obtain ⟨q, rfl, hq⟩ := f4_of hi
    obtain ⟨hf, hk, rfl⟩ := s_store_0 (Or.inl rfl) hs
    obtain ⟨x, rfl⟩ := isI_of hf
    exact lv_istore_n hx hb hd hq hL.1 (by omega) rfl (fun re' h' => kk re' (Lv.store1 (v := .int x) hlen h'))
  · cases hi
    obtain ⟨hf, hk, rfl⟩ := s_store_1 hs
    obtain ⟨x, rfl⟩ := isL_of hf
    exact lv_lstore hx hb hd hL.1 (by omega) rfl (fun re' h' => kk re' (Lv.store2 (v := .long x) hlen h'))
  · obtain ⟨q, rfl, hq⟩ := f4_of hi
    obtain ⟨hf, hk, rfl⟩ := s_store_1 hs
    obtain ⟨x, rfl⟩ := isL_of hf
    exact lv_lstore_n hx hb hd hq hL.1 (by omega) rfl (fun re' h' => kk re' (Lv.store2 (v := .long x) hlen h'))
  · cases hi
    obtain ⟨hf, hk, rfl⟩ := s_store_0 (Or.inr rfl) hs
    rcases isA_of hf with rfl | ⟨x, rfl⟩
    · exact lv_astoreN hx hb hd hL.1 (by omega) rfl (fun re' h' => kk re' (Lv.store1 (v := .null) hlen h'))
    · exact lv_astore hx hb hd hL.1 (by omega) rfl (fun re' h' => kk re' (Lv.store1 (v := .ref x) hlen h'))
  · obtain ⟨q, rfl, hq⟩ := f4_of hi
    obtain ⟨hf, hk, rfl⟩ := s_store_0 (Or.inr rfl) hs
    rcases isA_of hf with rfl | ⟨x, rfl⟩
    · exact lv_astore_nN hx hb hd hq hL.1 (by omega) rfl (fun re' h' => kk re' (Lv.store1 (v := .null) hlen h'))
    · exact lv_astore_n hx hb hd hq hL.1 (by omega) rfl (fun re' h' => kk re' (Lv.store1 (v := .ref x) hlen h'))
  · cases hi
theorem sm_iinc (hx : p.tables.exec = Jvm.exec) (hb : c.code = cc) (hL : Lv G ls nL re) {j k : Nat} {z : Int} {ts : List Nat} {x : Int32} (hi : toI pc len (3, j, k, z, ts) = some i) (hd : decode cc pc = .ok (i, len)) (hs : ls[k]? = some (.int x))
    (kk : ∀ re', Lv G (lSet ls k (.int (x + Int32.ofInt z))) nL re' → W p l e R s m args below meth c H locs cells slots Q (F0 m (pc + len) re' st)) : W p l e R s m args below meth c H locs cells slots Q (F0 m pc re st) := by
  have hlen : ls.length = nL := hL.2
  have hk : k < ls.length := (List.getElem?_eq_some_iff.mp hs).1
  have hm : (k, Value.int x) ∈ lvE G ls := lvE_mem (G := G) hs (fun q => by cases q)
  obtain ⟨n, hn⟩ := List.getElem?_of_mem hm
  rw [toI_3] at hi
  split at hi
  · cases hi
    exact lv_iinc hx hb hd hL.1 hn rfl (by omega) rfl (fun re' h' => kk re' (Lv.store1 (v := .int (x + Int32.ofInt z)) hlen h'))
  · cases hi
theorem sm_ibin (hx : p.tables.exec = Jvm.exec) (hb : c.code = cc) {j k : Nat} {z : Int} {ts : List Nat} {x y v : Int32} (hi : toI pc len (4, j, k, z, ts) = some i) (hd : decode cc pc = .ok (i, len)) (hs : s_ibin j x y = some v)
    (kk : W p l e R s m args below meth c H locs cells slots Q (F0 m (pc + len) re (.int v :: st))) : W p l e R s m args below meth c H locs cells slots Q (F0 m pc re (.int y :: .int x :: st)) := by
  rw [toI_4] at hi
  split at hi
  · cases hi; cases hs; exact lv_iadd hx hb hd kk
  · cases hi; cases hs; exact lv_isub hx hb hd kk
  · cases hi; cases hs; exact lv_imul hx hb hd kk
  · cases hi
    simp only [s_ibin] at hs
    split at hs
    · cases hs
    · rename_i hy; cases hs; exact lv_idiv hx hb hd hy kk
  · cases hi
    simp only [s_ibin] at hs
    split at hs
    · cases hs
    · rename_i hy; cases hs; exact lv_irem hx hb hd hy kk
  · cases hi; cases hs; exact lv_ishl hx hb hd kk
  · cases hi; cases hs; exact lv_ishr hx hb hd kk
  · cases hi; cases hs; exact lv_iushr hx hb hd rfl kk
  · cases hi; cases hs; exact lv_iand hx hb hd kk
  · cases hi; cases hs; exact lv_ior hx hb hd kk
  · cases hi; cases hs; exact lv_ixor hx hb hd kk
  · cases hi
theorem sm_lbin (hx : p.tables.exec = Jvm.exec) (hb : c.code = cc) {j k : Nat} {z : Int} {ts : List Nat} {x y : Int64} {v : Value} (hi : toI pc len (5, j, k, z, ts) = some i) (hd : decode cc pc = .ok (i, len)) (hs : s_lbin j x y = some v)
    (kk : W p l e R s m args below meth c H locs cells slots Q (F0 m (pc + len) re (lV G v :: st))) : W p l e R s m args below meth c H locs cells slots Q (F0 m pc re (.long y :: .long x :: st)) := by
  rw [toI_5] at hi
  split at hi
  · cases hi; cases hs; exact lv_ladd hx hb hd kk
  · cases hi; cases hs; exact lv_lsub hx hb hd kk
  · cases hi; cases hs; exact lv_lmul hx hb hd kk
  · cases hi
    simp only [s_lbin] at hs
    split at hs
    · cases hs
    · rename_i hy; cases hs; exact lv_ldiv hx hb hd hy kk
  · cases hi
    simp only [s_lbin] at hs
    split at hs
    · cases hs
    · rename_i hy; cases hs; exact lv_lrem hx hb hd hy kk
  · cases hi; cases hs; exact W.lcmp hx hb hd kk
  · cases hi
theorem sm_un (hx : p.tables.exec = Jvm.exec) (hb : c.code = cc) {j k : Nat} {z : Int} {ts : List Nat} {v w : Value} (hi : toI pc len (6, j, k, z, ts) = some i) (hd : decode cc pc = .ok (i, len)) (hs : s_un j v = some w)
    (kk : W p l e R s m args below meth c H locs cells slots Q (F0 m (pc + len) re (lV G w :: st))) : W p l e R s m args below meth c H locs cells slots Q (F0 m pc re (lV G v :: st)) := by
  rw [toI_6] at hi
  split at hi
  · cases hi; cases v <;> cases hs; exact lv_ineg hx hb hd kk
  · cases hi; cases v <;> cases hs; exact lv_i2l hx hb hd rfl kk
  · cases hi; cases v <;> cases hs; exact lv_l2i hx hb hd rfl kk
  · cases hi; cases v <;> cases hs; exact lv_i2b hx hb hd rfl kk
  · cases hi; cases v <;> cases hs; exact lv_i2c hx hb hd rfl kk
  · cases hi
theorem sm_stk (hx : p.tables.exec = Jvm.exec) (hb : c.code = cc) {j k : Nat} {z : Int} {ts : List Nat} {st' : List Value} (hi : toI pc len (7, j, k, z, ts) = some i) (hd : decode cc pc = .ok (i, len)) (hs : s_stk j st = some st')
    (kk : W p l e R s m args below meth c H locs cells slots Q (F0 m (pc + len) re (st'.map (lV G)))) : W p l e R s m args below meth c H locs cells slots Q (F0 m pc re (st.map (lV G))) := by
  rw [toI_7] at hi
  split at hi
  · cases hi
    match st, hs with
    | [], hs => cases hs
    | a :: r, hs =>
      simp only [s_stk] at hs
      cases ha : isL a with
      | true => simp only [ha, cond_true] at hs; cases hs
      | false =>
        simp only [ha, cond_false] at hs
        cases hs
        exact lv_dup hx hb hd (by rw [lV_cat]; exact isL_cat1 ha) kk
  · cases hi
    match st, hs with
    | [], hs => cases hs
    | a :: r, hs =>
      simp only [s_stk] at hs
      cases ha : isL a with
      | true => simp only [ha, cond_true] at hs; cases hs
      | false =>
        simp only [ha, cond_false] at hs
        cases hs
        exact lv_pop hx hb hd (by rw [lV_cat]; exact isL_cat1 ha) kk
  · cases hi
    match st, hs with
    | [], hs => cases hs
    | [a], hs => cases hs
    | a :: b :: r, hs =>
      simp only [s_stk] at hs
      cases ha : isL a with
      | true => simp only [ha, Bool.true_or, cond_true] at hs; cases hs
      | false =>
        cases hb2 : isL b with
        | true => simp only [ha, hb2, Bool.or_true, cond_true] at hs; cases hs
        | false =>
          simp only [ha, hb2, Bool.or_self, cond_false] at hs
          cases hs
          exact lv_dup2_11 hx hb hd (by rw [lV_cat]; exact isL_cat1 ha) (by rw [lV_cat]; exact isL_cat1 hb2) kk
  · cases hi
theorem int_tgt (k pc : Nat) : (pc : Int) + ((k : Int) - pc) = (k : Int) := by omega
theorem sm_if (hx : p.tables.exec = Jvm.exec) (hb : c.code = cc) {j k : Nat} {z : Int} {ts : List Nat} {x : Int32} (hi : toI pc len (8, j, k, z, ts) = some i) (hd : decode cc pc = .ok (i, len))
    (kk : W p l e R s m args below meth c H locs cells slots Q (F0 m (bif s_cmp j x 0 then k else pc + len) re st)) : W p l e R s m args below meth c H locs cells slots Q (F0 m pc re (.int x :: st)) := by
  rw [toI_8] at hi
  split at hi
  · unfold toCond at hi
    split at hi
    · cases hi
      exact lv_if_eq hx hb hd (int_tgt k pc) (fun h => by simpa [s_cmp, h] using kk) (fun h => by simpa [s_cmp, h] using kk)
    · cases hi
      exact lv_if_ne hx hb hd (int_tgt k pc) (fun h => by simpa [s_cmp, h] using kk) (fun h => by simpa [s_cmp, h] using kk)
    · cases hi
      exact lv_if_lt hx hb hd (int_tgt k pc) (fun h => by simpa [s_cmp, h] using kk) (fun h => by simpa [s_cmp, h] using kk)
    · cases hi
      exact lv_if_ge hx hb hd (int_tgt k pc) (fun h => by simpa [s_cmp, h] using kk) (fun h => by simpa [s_cmp, h] using kk)
    · cases hi
      exact lv_if_gt hx hb hd (int_tgt k pc) (fun h => by simpa [s_cmp, h] using kk) (fun h => by simpa [s_cmp, h] using kk)
    · cases hi
      exact lv_if_le hx hb hd (int_tgt k pc) (fun h => by simpa [s_cmp, h] using kk) (fun h => by simpa [s_cmp, h] using kk)
    · cases hi
  · cases hi
theorem sm_icmp (hx : p.tables.exec = Jvm.exec) (hb : c.code = cc) {j k : Nat} {z : Int} {ts : List Nat} {x y : Int32} (hi : toI pc len (9, j, k, z, ts) = some i) (hd : decode cc pc = .ok (i, len))
    (kk : W p l e R s m args below meth c H locs cells slots Q (F0 m (bif s_cmp j x y then k else pc + len) re st)) : W p l e R s m args below meth c H locs cells slots Q (F0 m pc re (.int y :: .int x :: st)) := by
  rw [toI_9] at hi
  split at hi
  · unfold toCond at hi
    split at hi
    · cases hi
      exact lv_icmp_eq hx hb hd (int_tgt k pc) (fun h => by simpa [s_cmp, h] using kk) (fun h => by simpa [s_cmp, h] using kk)
    · cases hi
      exact lv_icmp_ne hx hb hd (int_tgt k pc) (fun h => by simpa [s_cmp, h] using kk) (fun h => by simpa [s_cmp, h] using kk)
    · cases hi
      exact lv_icmp_lt hx hb hd (int_tgt k pc) (fun h => by simpa [s_cmp, h] using kk) (fun h => by simpa [s_cmp, h] using kk)
    · cases hi
      exact lv_icmp_ge hx hb hd (int_tgt k pc) (fun h => by simpa [s_cmp, h] using kk) (fun h => by simpa [s_cmp, h] using kk)
    · cases hi
      exact lv_icmp_gt hx hb hd (int_tgt k pc) (fun h => by simpa [s_cmp, h] using kk) (fun h => by simpa [s_cmp, h] using kk)
    · cases hi
      exact lv_icmp_le hx hb hd (int_tgt k pc) (fun h => by simpa [s_cmp, h] using kk) (fun h => by simpa [s_cmp, h] using kk)
    · cases hi
  · cases hi
theorem sm_goto (hx : p.tables.exec = Jvm.exec) (hb : c.code = cc) {j k : Nat} {z : Int} {ts : List Nat} (hi : toI pc len (10, j, k, z, ts) = some i) (hd : decode cc pc = .ok (i, len))
    (kk : W p l e R s m args below meth c H locs cells slots Q (F0 m k re st)) : W p l e R s m args below meth c H locs cells slots Q (F0 m pc re st) := by
  rw [toI_10] at hi
  split at hi
  · cases hi; exact lv_goto hx hb hd (int_tgt k pc) kk
  · cases hi
theorem sm_null (hx : p.tables.exec = Jvm.exec) (hb : c.code = cc) {j k : Nat} {z : Int} {ts : List Nat} {v : Value} {pc' : Nat} (hi : toI pc len (11, j, k, z, ts) = some i) (hd : decode cc pc = .ok (i, len))
    (hs : (j = 0 ∧ ((v = .null ∧ pc' = k) ∨ ((∃ a, v = .ref a) ∧ pc' = pc + len))) ∨ (j = 1 ∧ ((v = .null ∧ pc' = pc + len) ∨ ((∃ a, v = .ref a) ∧ pc' = k))))
    (kk : W p l e R s m args below meth c H locs cells slots Q (F0 m pc' re st)) : W p l e R s m args below meth c H locs cells slots Q (F0 m pc re (lV G v :: st)) := by
  rw [toI_11] at hi
  split at hi
  · cases hi
    rcases hs with ⟨-, hs⟩ | ⟨q, -⟩
    · rcases hs with ⟨rfl, rfl⟩ | ⟨⟨a, rfl⟩, rfl⟩
      · exact lv_ifnullN hx hb hd (int_tgt pc' pc) kk
      · exact lv_ifnull hx hb hd kk
    · cases q
  · cases hi
    rcases hs with ⟨q, -⟩ | ⟨-, hs⟩
    · cases q
    · rcases hs with ⟨rfl, rfl⟩ | ⟨⟨a, rfl⟩, rfl⟩
      · exact lv_ifnonnullN hx hb hd kk
      · exact lv_ifnonnull hx hb hd (int_tgt pc' pc) kk
  · cases hi
theorem sm_sw (hx : p.tables.exec = Jvm.exec) (hb : c.code = cc) {j k : Nat} {z : Int} {ts : List Nat} {x : Int32} (hi : toI pc len (12, j, k, z, ts) = some i) (hd : decode cc pc = .ok (i, len))
    (kk : W p l e R s m args below meth c H locs cells slots Q (F0 m (s_sw x z k ts) re st)) : W p l e R s m args below meth c H locs cells slots Q (F0 m pc re (.int x :: st)) := by
  rw [toI_12] at hi
  cases hi
  unfold s_sw at kk
  by_cases h1 : x.toInt < z
  · rw [if_pos h1] at kk
    exact lv_tableOut hx hb hd (Or.inl h1) (int_tgt k pc) kk
  · rw [if_neg h1] at kk
    by_cases h2 : z + ts.length - 1 < x.toInt
    · have h3 : ts.length ≤ (x.toInt - z).toNat := by omega
      rw [List.getD_eq_getElem?_getD, List.getElem?_eq_none h3, Option.getD_none] at kk
      exact lv_tableOut hx hb hd (Or.inr h2) (int_tgt k pc) kk
    · have h3 : (x.toInt - z).toNat < ts.length := by omega
      rw [List.getD_eq_getElem?_getD, List.getElem?_eq_getElem h3, Option.getD_some] at kk
      exact lv_tableIn hx hb hd h1 h2 (off := ((ts[(x.toInt - z).toNat] : Nat) : Int) - pc) (by simp [h3]) (int_tgt _ pc) kk
end SM
