/-! THE RELATION: the lines of a law that is read -/
theorem cnd_px {tv : Nat → Nat} {T p : Nat} {st : Sz} (hT : T ≤ 400) (hp : p ≤ T) (hs : st.2 + 1 ≤ p) (h : (cndF tv T st p).1 = true) : ((cndF tv T st p).2.1.2 = st.2 ∨ Ex (cndF tv T st p).2.1.1 true st.2 (cndF tv T st p).2.1.2) ∧ st.2 ≤ (cndF tv T st p).2.1.2 ∧ ∀ i, i < st.2 → (cndF tv T st p).2.1.1 i = st.1 i := by
  unfold cndF at h ⊢
  by_cases c : wdB tv T p kIf = true
  · rw [if_pos c] at h ⊢
    have ha := af_gt (tv := tv) hp
    have x := any_px hT st _ ha.2 (by omega) h
    exact ⟨Or.inr x.1, Nat.le_of_lt (ex_lt x.1), x.2⟩
  · rw [if_neg c]; exact ⟨Or.inl rfl, Nat.le_refl _, fun _ _ => rfl⟩
/-- lines 0 to m of a law: kinds, amounts, codes -/
def LwF (C : Mem) (c : Nat → Int32) (m : Nat) (bg : Nat → Nat) : Prop := (∀ l, l ≤ m → C 44 l = nI (bg l)) ∧ ∀ l, l < m → bg l ≤ bg (l + 1) ∧ (bg l = bg (l + 1) ∨ Ex c true (bg l) (bg (l + 1))) ∧ (∃ k, k < 3 ∧ C 42 l = nI k) ∧ ∃ v, v ≤ 20 ∧ C 43 l = nI v
theorem lin_o {C : Mem} {i k v z l : Nat} : linM (hedM C i k v) i z 42 l = (if l = i then nI k else C 42 l) ∧ linM (hedM C i k v) i z 43 l = (if l = i then nI v else C 43 l) ∧ linM (hedM C i k v) i z 44 l = (if l = i + 1 then nI z else C 44 l) := by
  unfold linM hedM
  rw [up2_row (show (42 : Nat) ≠ 44 by decide), up2_row (show (43 : Nat) ≠ 44 by decide), up2_row (show (42 : Nat) ≠ 41 by decide), up2_row (show (43 : Nat) ≠ 41 by decide), up2_row (show (42 : Nat) ≠ 43 by decide), up2_same, up2_same, up2_row (show (43 : Nat) ≠ 42 by decide), up2_same, up2_row (show (44 : Nat) ≠ 41 by decide), up2_row (show (44 : Nat) ≠ 43 by decide), up2_row (show (44 : Nat) ≠ 42 by decide)]
  exact ⟨rfl, rfl, rfl⟩
theorem hed_kv {tv : Nat → Nat} {T q k v z : Nat} (hq : q ≤ T) (h : hedF tv T q = .inr (k, v, z)) : k < 3 ∧ v ≤ 20 := by
  have ha := af_gt (tv := tv) hq
  unfold hedF at h
  cases hk : wd tv T q kinW with
  | none => rw [hk] at h; cases h
  | some k2 =>
    rw [hk] at h
    dsimp only at h
    cases hN : numR tv T (af tv T q) (nI 0) (nI 20) with
    | none => rw [hN] at h; cases h
    | some x =>
      obtain ⟨v2, z2⟩ := x
      rw [hN] at h
      have e : k2 = k ∧ v2 = v := by cases h; exact ⟨rfl, rfl⟩
      have h3 : k2 < 3 := wd_lt hk
      have hl := dgN_lt (tv := tv) ha.2
      unfold numR at hN
      split at hN
      · cases hN
      · rename_i hn
        have hz : (dgN tv T (af tv T q)).2 = v2 := by cases hN; rfl
        have h1 : ¬ nI 20 < nI (dgN tv T (af tv T q)).2 := fun q => hn (Or.inr (Or.inr (Or.inr q)))
        have := ge_nI h1 (by omega)
        omega
theorem lwf_s {tv : Nat → Nat} {T i k v z p : Nat} {C : Mem} {st : Sz} {bg : Nat → Nat} (hT : T ≤ 400) (hp : p ≤ T) (hs : st.2 ≤ p) (hh : hedF tv T p = .inr (k, v, z)) (hb : (cndF tv T st z).1 = true) (hL : LwF C st.1 i bg) (hbg : bg i = st.2) (hle : ∀ l, l ≤ i → bg l ≤ st.2) : ∃ bg2 : Nat → Nat, LwF (linM (hedM C i k v) i (cndF tv T st z).2.1.2) (cndF tv T st z).2.1.1 (i + 1) bg2 ∧ bg2 (i + 1) = (cndF tv T st z).2.1.2 ∧ ∀ l, l ≤ i + 1 → bg2 l ≤ (cndF tv T st z).2.1.2 := by
  have hz := hed_gt hp hh
  obtain ⟨x1, x2, x3⟩ := cnd_px hT hz.2 (by omega) hb
  obtain ⟨hk, hv⟩ := hed_kv hp hh
  generalize cndF tv T st z = r at *
  obtain ⟨b2, hb2, hb3⟩ : ∃ b2 : Nat → Nat, (∀ l, ¬ l = i + 1 → b2 l = bg l) ∧ b2 (i + 1) = r.2.1.2 := ⟨fun l => if l = i + 1 then r.2.1.2 else bg l, fun l hl => if_neg hl, if_pos rfl⟩
  refine ⟨b2, ⟨fun l hl => ?_, fun l hl => ?_⟩, hb3, fun l hl => ?_⟩
  · rw [lin_o.2.2]
    by_cases e : l = i + 1
    · rw [if_pos e, e, hb3]
    · rw [if_neg e, hb2 l e]; exact hL.1 l (by omega)
  · rw [(lin_o (l := l)).1, (lin_o (l := l)).2.1]
    by_cases e : l = i
    · subst e
      rw [hb2 l (by omega), hb3, if_pos rfl, if_pos rfl, hbg]
      exact ⟨x2, x1.imp (fun q => q.symm) id, ⟨k, hk, rfl⟩, v, hv, rfl⟩
    · rw [hb2 l (by omega), hb2 (l + 1) (by omega), if_neg e, if_neg e]
      obtain ⟨y1, y2, y3, y4⟩ := hL.2 l (by omega)
      have := hle (l + 1) (by omega)
      exact ⟨y1, y2.imp id (fun q => ex_cg q (fun j j1 j2 => x3 j (by omega))), y3, y4⟩
  · by_cases e : l = i + 1
    · rw [e, hb3]; exact Nat.le_refl _
    · rw [hb2 l e]; exact Nat.le_trans (hle l (by omega)) x2
/-- a law that is read is well made -/
theorem lawL_wf {tv : Nat → Nat} {T : Nat} (hT : T ≤ 400) : ∀ f i C st p bg, p ≤ T → st.2 ≤ p → LwF C st.1 i bg → bg i = st.2 → (∀ l, l ≤ i → bg l ≤ st.2) → (lawL tv T f i C st p).1 = true → ∃ m bg2, m ≤ i + f ∧ (lawL tv T f i C st p).2.1 41 5 = nI m ∧ LwF (lawL tv T f i C st p).2.1 (lawL tv T f i C st p).2.2.1.1 m bg2 ∧ bg2 m = (lawL tv T f i C st p).2.2.1.2 ∧ (lawL tv T f i C st p).2.2.1.2 ≤ 400 ∧ ∀ l, l ≤ m → bg2 l ≤ (lawL tv T f i C st p).2.2.1.2
  | 0, i, C, st, p, bg => fun _ _ _ _ _ h => absurd (show false = true from h) (by decide)
  | f + 1, i, C, st, p, bg => fun hp hs hL hbg hle h => by
    rw [lawL] at h ⊢
    cases hh : hedF tv T p with
    | inl z => rw [hh] at h; exact absurd (show false = true from h) (by decide)
    | inr x =>
      obtain ⟨k, v, z⟩ := x
      rw [hh] at h
      dsimp only at h ⊢
      by_cases c : (cndF tv T st z).1 = true
      · have hz := hed_gt hp hh
        have hg := cnd_gr (tv := tv) (T := T) st z hz.2 c
        obtain ⟨bg2, l1, l2, l3⟩ := lwf_s hT hp hs hh c hL hbg hle
        rw [if_pos c] at h ⊢
        generalize cndF tv T st z = r at *
        by_cases c1 : T ≤ r.2.2
        · rw [if_pos c1]
          exact ⟨i + 1, bg2, by omega, (lin_44 (C := hedM C i k v) (i := i) (z := r.2.1.2)).2, l1, l2, show r.2.1.2 ≤ 400 by omega, l3⟩
        · rw [if_neg c1] at h ⊢
          by_cases c2 : sgn tv T r.2.2 59
          · rw [if_pos c2] at h ⊢
            have hs2 := skp_ge (tv := tv) (p := r.2.2 + 1) (T := T) c2.1
            obtain ⟨m, b3, m1, m2⟩ := lawL_wf hT f (i + 1) (linM (hedM C i k v) i r.2.1.2) r.2.1 (skp tv T (r.2.2 + 1)) bg2 hs2.2 (by omega) l1 l2 l3 h
            exact ⟨m, b3, by omega, m2⟩
          · rw [if_neg c2] at h; exact absurd (show false = true from h) (by decide)
      · rw [if_neg c] at h; exact absurd (show false = true from h) (by decide)
