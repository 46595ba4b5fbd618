/-! THE RELATION: how deep a law's codes go; what the reader writes -/
def rdp (k : Nat → Int32) (a d : Nat) : Nat → Nat
  | 0 => d
  | j + 1 => if nI 10 < k (a + j) then (if k (a + j) = nI 14 then rdp k a d j else rdp k a d j - 1) else rdp k a d j + 1
theorem rdep_rdp {w : Nat → Int32} {bg : Nat} : ∀ j, rdep w bg j = rdp (fun i => w (532 + 2 * i)) bg 0 j
  | 0 => rfl
  | j + 1 => by rw [rdep, rdp, rdep_rdp j]
theorem rdp_add {k : Nat → Int32} {a d x : Nat} : ∀ y, rdp k a d (x + y) = rdp k (a + x) (rdp k a d x) y
  | 0 => rfl
  | y + 1 => by
    show rdp k a d (x + y + 1) = _
    rw [rdp, rdp, rdp_add y, Nat.add_assoc]
def Okd (k : Nat → Int32) (a d n : Nat) : Prop := ∀ j, j < n → nI 10 < k (a + j) → (k (a + j) = nI 14 → 1 ≤ rdp k a d j) ∧ (¬ k (a + j) = nI 14 → 2 ≤ rdp k a d j)
theorem okd_add {k : Nat → Int32} {a d x y : Nat} (h : Okd k a d x) (g : Okd k (a + x) (rdp k a d x) y) : Okd k a d (x + y) := fun j hj h10 => by
  by_cases e : j < x
  · exact h j e h10
  · obtain ⟨i, rfl⟩ : ∃ i, j = x + i := ⟨j - x, by omega⟩
    rw [← Nat.add_assoc] at h10 ⊢
    rw [rdp_add]
    exact g i (by omega) h10
/-- one more code behind two values, or behind one -/
theorem okd_op {k : Nat → Int32} {a d n : Nat} (h : Okd k a d n) (g : nI 10 < k (a + n) → (k (a + n) = nI 14 → 1 ≤ rdp k a d n) ∧ (¬ k (a + n) = nI 14 → 2 ≤ rdp k a d n)) : Okd k a d (n + 1) := fun j hj h10 => by
  by_cases e : j < n
  · exact h j e h10
  · obtain rfl : j = n := by omega
    exact g h10
theorem exN_dep {c : Nat → Int32} : ∀ f t a z, ExN c f t a z → ∀ d, rdp (fun i => tk1 (c i)) a d (z - a) = d + 1 ∧ Okd (fun i => tk1 (c i)) a d (z - a)
  | 0 => fun _ _ _ h => h.elim
  | f + 1 => fun t a z h d => by
    have two : ∀ b y t, ExN c f t a b → ExN c f t b y → rdp (fun i => tk1 (c i)) a d (y - a) = d + 1 + 1 ∧ Okd (fun i => tk1 (c i)) a d (y - a) := fun b y t h2 h3 => by
      have l1 := exN_lt f _ _ _ h2
      have l2 := exN_lt f _ _ _ h3
      obtain ⟨x1, x2⟩ := exN_dep f _ _ _ h2 d
      obtain ⟨y1, y2⟩ := exN_dep f _ _ _ h3 (d + 1)
      rw [show y - a = (b - a) + (y - b) by omega]
      refine ⟨by rw [rdp_add, x1, show a + (b - a) = b by omega]; exact y1, okd_add x2 (by rw [x1, show a + (b - a) = b by omega]; exact y2)⟩
    have op : ∀ y, a < y → nI 10 < tk1 (c y) → ¬ tk1 (c y) = nI 14 → rdp (fun i => tk1 (c i)) a d (y - a) = d + 1 + 1 → Okd (fun i => tk1 (c i)) a d (y - a) → rdp (fun i => tk1 (c i)) a d (y + 1 - a) = d + 1 ∧ Okd (fun i => tk1 (c i)) a d (y + 1 - a) := fun y hy h10 h14 r o => by
      rw [show y + 1 - a = (y - a) + 1 by omega]
      have e : a + (y - a) = y := by omega
      refine ⟨?_, okd_op o (fun _ => ⟨fun _ => by omega, fun _ => by omega⟩)⟩
      rw [rdp, e]
      rw [if_pos h10, if_neg h14, r]; rfl
    rcases h with ⟨rfl, h⟩ | ⟨b, y, rfl, h2, h3, h4⟩ | ⟨y, rfl, rfl, h3, h4⟩ | ⟨b, y, rfl, rfl, h3, h4, h5⟩
    · have h10 : ¬ nI 10 < tk1 (c a) := by
        rcases h with ⟨rfl, ⟨v, hv9, e⟩ | ⟨k, hk, e⟩⟩ | ⟨rfl, k, hk, e⟩
        · rw [e, (tk_num hv9).1]; decide
        · have h1 := (tk_w ⟨k, by omega⟩).1
          dsimp only at h1
          rw [e, h1]; exact nI_nlt (by omega) (by omega)
        · have h1 := (tk_w ⟨7 + k, by omega⟩).1
          dsimp only at h1
          rw [e, show 1007 + k = 1000 + (7 + k) by omega, h1]; exact nI_nlt (by omega) (by omega)
      rw [show a + 1 - a = 0 + 1 by omega]
      refine ⟨?_, fun j hj q => ?_⟩
      · rw [rdp, Nat.add_zero, if_neg h10]; rfl
      · obtain rfl : j = 0 := by omega
        exact absurd q h10
    · obtain ⟨r, o⟩ := two b y false h2 h3
      have l1 := exN_lt f _ _ _ h2
      have l2 := exN_lt f _ _ _ h3
      rcases h4 with ⟨rfl, e⟩ | ⟨rfl, e | e⟩
      · exact op y (by omega) (by rw [e]; decide) (by rw [e]; decide) r o
      · exact op y (by omega) (by rw [e]; decide) (by rw [e]; decide) r o
      · exact op y (by omega) (by rw [e]; decide) (by rw [e]; decide) r o
    · have l1 := exN_lt f _ _ _ h3
      obtain ⟨x1, x2⟩ := exN_dep f _ _ _ h3 d
      rw [show y + 1 - a = (y - a) + 1 by omega]
      have e : a + (y - a) = y := by omega
      refine ⟨?_, okd_op x2 (fun _ => ⟨fun _ => by omega, fun q => ?_⟩)⟩
      · rw [rdp, e]
        rw [h4, show tk1 (nI 1010) = nI 14 by decide, if_pos (by decide), if_pos rfl, x1]
      · rw [e] at q
        rw [h4] at q
        exact absurd (show tk1 (nI 1010) = nI 14 by decide) q
    · obtain ⟨r, o⟩ := two b y true h3 h4
      have l1 := exN_lt f _ _ _ h3
      have l2 := exN_lt f _ _ _ h4
      rcases h5 with e | e
      · exact op y (by omega) (by rw [e]; decide) (by rw [e]; decide) r o
      · exact op y (by omega) (by rw [e]; decide) (by rw [e]; decide) r o
/-- a condition of the world is well made -/
theorem ex_ln {c w : Nat → Int32} {t : Bool} {a z : Nat} (h : Ex c t a z) (hw : ∀ i, a ≤ i → i < z → w (532 + 2 * i) = tk1 (c i)) : LnOk w a (z - a) := by
  obtain ⟨f, hf⟩ := h
  have hlt := exN_lt f _ _ _ hf
  have hk : ∀ j, j ≤ z - a → rdep w a j = rdp (fun i => tk1 (c i)) a 0 j := by
    intro j
    induction j with
    | zero => intro _; rfl
    | succ j ih => intro hj; rw [rdep, rdp, ih (by omega), hw (a + j) (by omega) (by omega)]
  intro j hj h10
  rw [hw (a + j) (by omega) (by omega)] at h10 ⊢
  rw [hk j (by omega)]
  exact (exN_dep f _ _ _ hf 0).2 j hj h10
