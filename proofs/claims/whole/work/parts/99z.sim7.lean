/-! THE RELATION: a law's lines hold in both or in neither; their sums -/
theorem forN_cg {α : Type} {f g : Nat → α → α} {a : α} : ∀ k, (∀ j, j < k → ∀ p, f j p = g j p) → forN f a k = forN g a k
  | 0 => fun _ => rfl
  | k + 1 => fun h => by
    show f k (forN f a k) = g k (forN g a k)
    rw [forN_cg k (fun j hj => h j (by omega)), h k (by omega)]
theorem ask_upr {I : Mem} {b c la : Nat} {dr : Int32} {w g : Nat → Int32} (h : AskS I b c dr w) (ho : la + 6 ≤ b ∨ b + 12 ≤ la) : AskS (upr I (la + 5) g) b c dr w := by
  unfold AskS
  rw [upr_ne (show b + 1 ≠ la + 5 by omega), upr_ne (show b + 2 ≠ la + 5 by omega), upr_ne (show b + 3 ≠ la + 5 by omega), upr_ne (show b ≠ la + 5 by omega)]
  exact h
theorem hold_iff {I : Mem} {la b c bg e : Nat} {dr : Int32} {w v : Nat → Int32} (h : AskS I b c dr w) (hc : c < 25) (hbe : bg ≤ e) (he : e ≤ 400) (hw : ∀ t, t < e → w (532 + 2 * t) = tk1 (I (la + 4) t) ∧ w (532 + 2 * t + 1) = tk2 (I (la + 4) t)) (hx : bg = e ∨ Ex (I (la + 4)) true bg e) : holdP I la b c dr bg (e - bg) ↔ rhldP w c v bg (e - bg) := by
  rcases hx with rfl | ⟨f, hf⟩
  · rw [Nat.sub_self]
    exact ⟨fun _ => Or.inl rfl, fun _ => Or.inl rfl⟩
  · have hr : rrun w c v bg (e - bg) = rrn (facT w c) (I (la + 4)) bg (e - bg) (0, v) := by
      unfold rrun rrn
      refine forN_cg _ (fun j hj p => ?_)
      obtain ⟨e1, e2⟩ := hw (bg + j) (by omega)
      rw [e1, e2]; rfl
    have hh : hrunC I la b c dr bg (e - bg) = hrn (valC I b c dr) (I (la + 4)) bg (e - bg) (0, I (la + 5)) := rfl
    obtain ⟨x, x1, x2, x3, -, x5, x6, -⟩ := exN_run (val := valC I b c dr) (fac := facT w c) (fun v hv => fac_v hv) (fun k hk => fac_w h hk) (fun k hk => fac_b h (by omega) hk) f _ _ _ hf 0 (0, I (la + 5)) (0, v) (by omega) rfl rfl
    unfold holdP rhldP
    rw [hr, hh, x2, x3, x5, x6]
    rcases x1 rfl with q | q
    · rw [q]; decide
    · rw [q]; decide
/-- a law of the class and the world's -/
def LawS (I : Mem) (la m z : Nat) (bg : Nat → Nat) (w : Nat → Int32) : Prop := z ≤ 400 ∧ (∀ l, l < m → I (la + 1) l = w (484 + 4 * l) ∧ I (la + 2) l = w (484 + 4 * l + 1) ∧ bg l ≤ bg (l + 1) ∧ bg (l + 1) ≤ z ∧ (bg l = bg (l + 1) ∨ Ex (I (la + 4)) true (bg l) (bg (l + 1)))) ∧ ∀ t, t < z → w (532 + 2 * t) = tk1 (I (la + 4) t) ∧ w (532 + 2 * t + 1) = tk2 (I (la + 4) t)
theorem tot_eq {I : Mem} {la b c m z : Nat} {bg : Nat → Nat} {dr kd : Int32} {w v : Nat → Int32} (hL : LawS I la m z bg w) (h : AskS I b c dr w) (hc : c < 25) (ho : la + 6 ≤ b ∨ b + 12 ≤ la) : ∀ j, j ≤ m → (totC I la b c dr kd bg j).1 = (rtot w c kd bg (fun l => bg (l + 1)) v j).1
  | 0 => fun _ => rfl
  | j + 1 => fun hj => by
    have ih := tot_eq (kd := kd) (v := v) hL h hc ho j (by omega)
    obtain ⟨l1, l2, l3, l4, l5⟩ := hL.2.1 j (by omega)
    show (tstep I la b c dr kd bg j (totC I la b c dr kd bg j)).1 = (rtst w c kd bg (fun l => bg (l + 1)) j (rtot w c kd bg (fun l => bg (l + 1)) v j)).1
    generalize totC I la b c dr kd bg j = p at *
    generalize rtot w c kd bg (fun l => bg (l + 1)) v j = q at *
    unfold tstep rtst
    rw [l1]
    by_cases e : w (484 + 4 * j) = kd
    · rw [if_pos e, if_pos e]
      have h4 : upr I (la + 5) p.2 (la + 4) = I (la + 4) := upr_ne (by omega)
      have hi := hold_iff (la := la) (v := q.2) (bg := bg j) (e := bg (j + 1)) (ask_upr (la := la) (g := p.2) h ho) hc l3 (by have := hL.1; omega) (fun t ht => by rw [h4]; exact hL.2.2 t (by omega)) (by rw [h4]; exact l5)
      by_cases g : holdP (upr I (la + 5) p.2) la b c dr (bg j) (bg (j + 1) - bg j)
      · rw [if_pos g, if_pos (hi.mp g), ih, l2]
      · rw [if_neg g, if_neg (fun z => g (hi.mpr z)), ih]
    · rw [if_neg e, if_neg e, ih]
