/-! BITS OF CELLS (the first rows, to b_sshr, are the kit's own to paste) -/
def btI (x : Int32) (i : Nat) : Bool := x.toBitVec.getLsbD i
theorem b_ext {x y : Int32} (h : ∀ i, i < 32 → btI x i = btI y i) : x = y := Int32.toBitVec_inj.mp (BitVec.eq_of_getLsbD_eq (fun i hi => h i hi))
theorem b_or (x y : Int32) (i : Nat) : btI (x ||| y) i = (btI x i || btI y i) := by unfold btI; rw [Int32.toBitVec_or, BitVec.getLsbD_or]
theorem b_and (x y : Int32) (i : Nat) : btI (x &&& y) i = (btI x i && btI y i) := by unfold btI; rw [Int32.toBitVec_and, BitVec.getLsbD_and]
theorem b_xor (x y : Int32) (i : Nat) : btI (x ^^^ y) i = (btI x i ^^ btI y i) := by unfold btI; rw [Int32.toBitVec_xor, BitVec.getLsbD_xor]
theorem b_big {x : Int32} {i : Nat} (h : 32 ≤ i) : btI x i = false := BitVec.getLsbD_of_ge _ _ h
theorem b_m1 : ∀ i, i < 32 → btI (-1) i = true := by decide +kernel
theorem b_0 (i : Nat) : btI 0 i = false := BitVec.getLsbD_zero
theorem s_l : ∀ n, n < 32 → ((nI n &&& 31).toBitVec.smod 32).toNat = n := by decide +kernel
theorem s_u : ∀ n, n < 32 → (((nI n).toUInt32 &&& Int32.toUInt32 31).toBitVec % 32).toNat = n := by decide +kernel
theorem b_shl (n : Nat) (hn : n < 32) (x : Int32) {i : Nat} (hi : i < 32) : btI (x <<< (nI n &&& 31)) i = (decide (n ≤ i) && btI x (i - n)) := by
  unfold btI
  rw [Int32.toBitVec_shiftLeft]
  show (x.toBitVec <<< ((nI n &&& 31).toBitVec.smod 32).toNat).getLsbD i = _
  rw [s_l n hn, BitVec.getLsbD_shiftLeft]
  rcases Nat.lt_or_ge i n with h | h
  · simp [h, Nat.not_le.mpr h]
  · simp [hi, h, Nat.not_lt.mpr h]
theorem b_ushr (n : Nat) (hn : n < 32) (x : Int32) (i : Nat) : btI ((x.toUInt32 >>> ((nI n).toUInt32 &&& Int32.toUInt32 31)).toInt32) i = btI x (n + i) := by
  show (x.toUInt32 >>> ((nI n).toUInt32 &&& Int32.toUInt32 31)).toBitVec.getLsbD i = x.toUInt32.toBitVec.getLsbD (n + i)
  rw [UInt32.toBitVec_shiftRight]
  show (x.toUInt32.toBitVec >>> (((nI n).toUInt32 &&& Int32.toUInt32 31).toBitVec % 32).toNat).getLsbD i = _
  rw [s_u n hn, BitVec.getLsbD_ushiftRight]
theorem b_sshr (n : Nat) (hn : n < 32) (x : Int32) {i : Nat} (hi : i < 32) : btI (x >>> (nI n &&& 31)) i = if n + i < 32 then btI x (n + i) else btI x 31 := by
  unfold btI
  rw [Int32.toBitVec_shiftRight]
  show (x.toBitVec.sshiftRight ((nI n &&& 31).toBitVec.smod 32).toNat).getLsbD i = _
  rw [s_l n hn, BitVec.getLsbD_sshiftRight, BitVec.msb_eq_getLsbD_last]
  simp [hi]
theorem bt_1 : ∀ i, i < 32 → btI (nI 1) i = decide (i = 0) := by decide +kernel
theorem bt_n0 {i : Nat} : btI (nI 0) i = false := b_0 i
theorem bt_jshl (x : Int32) {c i : Nat} (hc : c < 32) (hi : i < 32) : btI (jshl x (nI c)) i = (decide (c ≤ i) && btI x (i - c)) := b_shl c hc x hi
theorem bt_jshr (x : Int32) {c i : Nat} (hc : c < 32) (hi : i < 32) : btI (jshr x (nI c)) i = if c + i < 32 then btI x (c + i) else btI x 31 := b_sshr c hc x hi
theorem bt_s1 : ∀ c, c < 32 → ∀ i, i < 32 → btI (jshl (nI 1) (nI c)) i = decide (i = c) := by decide +kernel
theorem and1_bt {x : Int32} {c : Nat} (hc : c < 32) : jshr x (nI c) &&& nI 1 = if btI x c = true then nI 1 else nI 0 := by
  apply b_ext
  intro i hi
  rw [b_and, bt_1 i hi]
  by_cases h0 : i = 0
  · subst h0
    rw [bt_jshr x hc hi, if_pos (by omega)]
    by_cases h : btI x c = true
    · rw [if_pos h, show c + 0 = c from rfl, h]; decide
    · rw [if_neg h, show c + 0 = c from rfl, Bool.eq_false_iff.mpr h, bt_n0]; rfl
  · rw [decide_eq_false h0, Bool.and_false]
    by_cases h : btI x c = true
    · rw [if_pos h, bt_1 i hi, decide_eq_false h0]
    · rw [if_neg h, bt_n0]
theorem hasP_bt {x : Int32} {c : Nat} (hc : c < 32) : hasP x c ↔ btI x c = true := by
  show jshr x (nI c) &&& nI 1 = nI 1 ↔ _
  rw [and1_bt hc]
  by_cases h : btI x c = true
  · rw [if_pos h]; exact ⟨fun _ => h, fun _ => rfl⟩
  · rw [if_neg h]; exact ⟨fun e => absurd e (by decide), fun e => absurd e h⟩
theorem bt_all : ∀ i, i < 32 → btI (nI 33554431) i = decide (i < 25) := by decide +kernel
theorem bt_m1 {i : Nat} (h : i < 32) : btI (-1) i = true := b_m1 i h
theorem bt_nt {x : Int32} {i : Nat} (h : i < 32) : btI (x ^^^ (-1)) i = !btI x i := by rw [b_xor, bt_m1 h]; cases btI x i <;> rfl
theorem low25_iff {x : Int32} : low25 x ↔ ∀ j, 25 ≤ j → j < 32 → btI x j = false := by
  unfold low25
  constructor
  · intro h j hj h32
    have := congrArg (fun y => btI y j) h
    rw [b_and, bt_all j h32, decide_eq_false (by omega), Bool.and_false] at this
    exact this.symm
  · intro h
    apply b_ext
    intro i hi
    rw [b_and, bt_all i hi]
    by_cases hc : i < 25
    · rw [decide_eq_true hc, Bool.and_true]
    · rw [h i (by omega) hi, Bool.false_and]
theorem low25_ext {x y : Int32} (hx : low25 x) (hy : low25 y) (h : ∀ j, j < 25 → btI x j = btI y j) : x = y := b_ext (fun i hi => by
  by_cases hc : i < 25
  · exact h i hc
  · rw [low25_iff.mp hx i (by omega) hi, low25_iff.mp hy i (by omega) hi])
theorem low25_and {x y : Int32} (hx : low25 x) : low25 (x &&& y) := low25_iff.mpr (fun j h1 h2 => by rw [b_and, low25_iff.mp hx j h1 h2, Bool.false_and])
theorem low25_and2 {x y : Int32} (hy : low25 y) : low25 (x &&& y) := low25_iff.mpr (fun j h1 h2 => by rw [b_and, low25_iff.mp hy j h1 h2, Bool.and_false])
theorem low25_s1 {c : Nat} (hc : c < 25) : low25 (jshl (nI 1) (nI c)) := low25_1 ⟨c, hc⟩
theorem low25_0 : low25 (nI 0) := by unfold low25; decide
theorem low25_bes {x : Int32} : low25 (besideC x) := by unfold besideC; exact low25_and2 (by unfold low25; decide)
theorem low25_more {a x : Int32} (hx : low25 x) : low25 (moreC a x) := low25_or hx (low25_and low25_bes)
theorem bes_fw : ∀ j, j < 24 → btI (-1082402) (1 + j) = true → btI (besB (1 + j)) j = true := by decide +kernel
theorem bes_bw : ∀ j, j < 25 → 1 ≤ j → btI (-17318417) (j - 1) = true → btI (besB (j - 1)) j = true := by decide +kernel
theorem bes_dn : ∀ j, j < 20 → btI (besB (5 + j)) j = true := by decide +kernel
theorem bes_up : ∀ j, j < 25 → 5 ≤ j → btI (besB (j - 5)) j = true := by decide +kernel
theorem bes_inv0 : ∀ c : Fin 25, ∀ j : Fin 25, ¬ btI (besB c.1) j.1 = true ∨ (c.1 = 1 + j.1 ∧ btI (-1082402) (1 + j.1) = true) ∨ (1 ≤ j.1 ∧ c.1 = j.1 - 1 ∧ btI (-17318417) (j.1 - 1) = true) ∨ c.1 = 5 + j.1 ∨ (5 ≤ j.1 ∧ c.1 = j.1 - 5) := by decide +kernel
theorem bes_inv (c : Nat) (hc : c < 25) (j : Nat) (hj : j < 25) (h : btI (besB c) j = true) : (c = 1 + j ∧ btI (-1082402) (1 + j) = true) ∨ (1 ≤ j ∧ c = j - 1 ∧ btI (-17318417) (j - 1) = true) ∨ c = 5 + j ∨ (5 ≤ j ∧ c = j - 5) := (bes_inv0 ⟨c, hc⟩ ⟨j, hj⟩).resolve_left (fun q => q h)
theorem bes_hi : ∀ c, c < 25 → ∀ j, j < 32 → 25 ≤ j → btI (besB c) j = false := by decide +kernel
theorem bes_sym : ∀ c, c < 25 → ∀ j, j < 25 → btI (besB c) j = btI (besB j) c := by decide +kernel
theorem bt_bes (x : Int32) {j : Nat} (hj : j < 25) : btI (besideC x) j = (((((btI x (1 + j) && btI (-1082402) (1 + j)) || (decide (1 ≤ j) && (btI x (j - 1) && btI (-17318417) (j - 1)))) || btI x (5 + j)) || (decide (5 ≤ j) && btI x (j - 5)))) := by
  unfold besideC
  rw [b_and, b_or, b_or, b_or, bt_jshr _ (by omega) (by omega), bt_jshl _ (by omega) (by omega), bt_jshr _ (by omega) (by omega), bt_jshl _ (by omega) (by omega), if_pos (by omega), if_pos (by omega), b_and, b_and, bt_all j (by omega), decide_eq_true hj, Bool.and_true]
theorem beside_iff {x : Int32} (hx : low25 x) {j : Nat} (hj : j < 25) : btI (besideC x) j = true ↔ ∃ c, c < 25 ∧ btI x c = true ∧ btI (besB c) j = true := by
  rw [bt_bes x hj]
  constructor
  · intro h
    rw [Bool.or_eq_true, Bool.or_eq_true, Bool.or_eq_true] at h
    rcases h with ((h | h) | h) | h
    · rw [Bool.and_eq_true] at h
      have hc : 1 + j < 25 := by
        apply Classical.byContradiction
        intro hn
        have := low25_iff.mp hx (1 + j) (by omega) (by omega)
        rw [this] at h
        exact absurd h.1 (by decide)
      exact ⟨1 + j, hc, h.1, bes_fw j (by omega) h.2⟩
    · rw [Bool.and_eq_true, Bool.and_eq_true] at h
      exact ⟨j - 1, by omega, h.2.1, bes_bw j hj (of_decide_eq_true h.1) h.2.2⟩
    · have hc : 5 + j < 25 := by
        apply Classical.byContradiction
        intro hn
        have := low25_iff.mp hx (5 + j) (by omega) (by omega)
        rw [this] at h
        exact absurd h (by decide)
      exact ⟨5 + j, hc, h, bes_dn j (by omega)⟩
    · rw [Bool.and_eq_true] at h
      exact ⟨j - 5, by omega, h.2, bes_up j hj (of_decide_eq_true h.1)⟩
  · rintro ⟨c, hc, h1, h2⟩
    rw [Bool.or_eq_true, Bool.or_eq_true, Bool.or_eq_true]
    rcases bes_inv c hc j hj h2 with ⟨rfl, h⟩ | ⟨h0, rfl, h⟩ | rfl | ⟨h0, rfl⟩
    · left; left; left; rw [h1, h]; rfl
    · left; left; right; rw [h1, h, decide_eq_true h0]; rfl
    · left; right; exact h1
    · right; rw [h1, decide_eq_true h0]; rfl
theorem more_iff {a x : Int32} (hx : low25 x) {j : Nat} (hj : j < 25) : btI (moreC a x) j = true ↔ btI x j = true ∨ (btI a j = true ∧ ∃ c, c < 25 ∧ btI x c = true ∧ btI (besB c) j = true) := by
  unfold moreC
  rw [b_or, b_and, Bool.or_eq_true, Bool.and_eq_true, beside_iff hx hj, and_comm (a := ∃ c, _)]
theorem widN_iff {x a : Int32} {j : Nat} : ∀ i, i ≤ 25 → (btI (widN x a i) j = true ↔ btI x j = true ∨ ∃ c, c < i ∧ btI x c = true ∧ btI (besB c) j = true ∧ btI a j = true)
  | 0 => fun _ => ⟨fun h => Or.inl h, fun h => h.elim id (fun ⟨c, hc, _⟩ => absurd hc (Nat.not_lt_zero c))⟩
  | i + 1 => fun hi => by
    have ih := widN_iff (x := x) (a := a) (j := j) i (by omega)
    show btI (widN x a i ||| (if hasP x i then besB i &&& a else nI 0)) j = true ↔ _
    rw [b_or, Bool.or_eq_true, ih]
    constructor
    · rintro ((h | ⟨c, hc, h⟩) | h)
      · exact Or.inl h
      · exact Or.inr ⟨c, by omega, h⟩
      · by_cases hp : hasP x i
        · rw [if_pos hp, b_and, Bool.and_eq_true] at h
          exact Or.inr ⟨i, by omega, (hasP_bt (by omega)).mp hp, h.1, h.2⟩
        · rw [if_neg hp, bt_n0] at h
          exact absurd h (by decide)
    · rintro (h | ⟨c, hc, h1, h2, h3⟩)
      · exact Or.inl (Or.inl h)
      · by_cases e : c = i
        · subst e
          right
          rw [if_pos ((hasP_bt (by omega)).mpr h1), b_and, h2, h3]; rfl
        · exact Or.inl (Or.inr ⟨c, by omega, h1, h2, h3⟩)
theorem bool_eq {a b : Bool} (h : a = true ↔ b = true) : a = b := by cases a <;> cases b <;> simp_all
theorem wid_more {x a : Int32} (hx : low25 x) : widC x a = moreC a x := by
  apply b_ext
  intro j hj
  apply bool_eq
  show btI (widN x a 25) j = true ↔ _
  rw [widN_iff 25 (Nat.le_refl _)]
  by_cases hc : j < 25
  · rw [more_iff hx hc]
    constructor
    · rintro (h | ⟨c, h1, h2, h3, h4⟩)
      · exact Or.inl h
      · exact Or.inr ⟨h4, c, h1, h2, h3⟩
    · rintro (h | ⟨h4, c, h1, h2, h3⟩)
      · exact Or.inl h
      · exact Or.inr ⟨c, h1, h2, h3, h4⟩
  · rw [low25_iff.mp (low25_more hx) j (by omega) hj]
    constructor
    · rintro (h | ⟨c, h1, h2, h3, h4⟩)
      · rw [low25_iff.mp hx j (by omega) hj] at h; exact h
      · rw [bes_hi c h1 j hj (by omega)] at h3; exact h3
    · intro h; exact absurd h (by decide)
/-- steps among some cells -/
def itC (a x : Int32) (i : Nat) : Int32 := forN (fun _ y => moreC a y) x i
theorem itC_s {a x : Int32} {i : Nat} : itC a x (i + 1) = moreC a (itC a x i) := rfl
theorem low25_it {a x : Int32} (hx : low25 x) : ∀ i, low25 (itC a x i)
  | 0 => hx
  | i + 1 => low25_more (low25_it hx i)
theorem pieN_it {a x : Int32} (hx : low25 x) : ∀ i, pieN x a i = itC a x i
  | 0 => rfl
  | i + 1 => by
    show widC (pieN x a i) a = moreC a (itC a x i)
    rw [pieN_it hx i, wid_more (low25_it hx i)]
theorem spread_it (x w : Int32) : spreadC x w = itC w x 25 := rfl
/-- how many cells -/
def cdN (x : Int32) : Nat → Nat
  | 0 => 0
  | i + 1 => cdN x i + (if btI x i = true then 1 else 0)
theorem cdN_le {x : Int32} : ∀ i, cdN x i ≤ i
  | 0 => Nat.le_refl _
  | i + 1 => by have := cdN_le (x := x) i; show cdN x i + (if btI x i = true then 1 else 0) ≤ i + 1; split <;> omega
theorem cdN_mono {x y : Int32} (h : ∀ j, j < 25 → btI x j = true → btI y j = true) : ∀ i, i ≤ 25 → cdN x i ≤ cdN y i
  | 0 => fun _ => Nat.le_refl _
  | i + 1 => fun hi => by
    have ih := cdN_mono h i (by omega)
    show cdN x i + (if btI x i = true then 1 else 0) ≤ cdN y i + (if btI y i = true then 1 else 0)
    by_cases e : btI x i = true
    · rw [if_pos e, if_pos (h i (by omega) e)]; omega
    · rw [if_neg e]; split <;> omega
theorem cdN_lt {x y : Int32} (h : ∀ j, j < 25 → btI x j = true → btI y j = true) {c : Nat} (h1 : btI x c = false) (h2 : btI y c = true) : ∀ i, i ≤ 25 → c < i → cdN x i < cdN y i
  | 0 => fun _ hc => absurd hc (Nat.not_lt_zero c)
  | i + 1 => fun hi hc => by
    show cdN x i + (if btI x i = true then 1 else 0) < cdN y i + (if btI y i = true then 1 else 0)
    by_cases e : c = i
    · subst e
      have ih := cdN_mono h c (by omega)
      rw [if_pos h2, h1, if_neg (by decide)]; omega
    · have ih := cdN_lt h h1 h2 i (by omega) (by omega)
      by_cases e : btI x i = true
      · rw [if_pos e, if_pos (h i (by omega) e)]; omega
      · rw [if_neg e]; split <;> omega
theorem cdN_pos {x : Int32} {c : Nat} (h : btI x c = true) : ∀ i, c < i → 1 ≤ cdN x i
  | 0 => fun hc => absurd hc (Nat.not_lt_zero c)
  | i + 1 => fun hc => by
    show 1 ≤ cdN x i + (if btI x i = true then 1 else 0)
    by_cases e : c = i
    · subst e; rw [if_pos h]; omega
    · have := cdN_pos h i (by omega); omega
theorem some_bt {x : Int32} (hx : low25 x) (h0 : ¬ x = nI 0) : ∃ c, c < 25 ∧ btI x c = true := by
  apply Classical.byContradiction
  intro hn
  apply h0
  apply low25_ext hx low25_0
  intro j hj
  rw [bt_n0]
  cases e : btI x j with
  | false => rfl
  | true => exact absurd ⟨j, hj, e⟩ hn
theorem more_sub {a x : Int32} {j : Nat} (h : btI x j = true) : btI (moreC a x) j = true := by unfold moreC; rw [b_or, h]; rfl
theorem more_ne {a x : Int32} (hx : low25 x) (h : ¬ moreC a x = x) : cdN x 25 + 1 ≤ cdN (moreC a x) 25 := by
  have : ∃ c, c < 25 ∧ btI x c = false ∧ btI (moreC a x) c = true := by
    apply Classical.byContradiction
    intro hn
    apply h
    apply low25_ext (low25_more hx) hx
    intro j hj
    cases e : btI x j with
    | true => exact more_sub e
    | false =>
      cases e2 : btI (moreC a x) j with
      | false => rfl
      | true => exact absurd ⟨j, hj, e, e2⟩ hn
  obtain ⟨c, hc, h1, h2⟩ := this
  exact cdN_lt (fun j _ hj => more_sub hj) h1 h2 25 (Nat.le_refl _) hc
theorem it_grow {a x : Int32} (hx : low25 x) : ∀ i, itC a x (i + 1) = itC a x i ∨ cdN x 25 + (i + 1) ≤ cdN (itC a x (i + 1)) 25
  | 0 => by
    by_cases h : moreC a x = x
    · exact Or.inl h
    · exact Or.inr (more_ne hx h)
  | i + 1 => by
    by_cases h : moreC a (itC a x (i + 1)) = itC a x (i + 1)
    · exact Or.inl h
    · have h2 := more_ne (low25_it hx (i + 1)) h
      rcases it_grow (a := a) hx i with e | e
      · exact absurd (show moreC a (itC a x (i + 1)) = itC a x (i + 1) by rw [e, ← itC_s, e]) h
      · right
        show _ ≤ cdN (moreC a (itC a x (i + 1))) 25
        omega
theorem it_fix {a x : Int32} (hx : low25 x) : moreC a (itC a x 25) = itC a x 25 := by
  rcases it_grow (a := a) hx 25 with e | e
  · exact e
  · have := cdN_le (x := itC a x (25 + 1)) 25; omega
theorem it_24 {a x : Int32} (hx : low25 x) (h0 : ¬ x = nI 0) : itC a x 25 = itC a x 24 := by
  obtain ⟨c, hc, h1⟩ := some_bt hx h0
  have := cdN_pos h1 25 hc
  rcases it_grow (a := a) hx 24 with e | e
  · exact e
  · have := cdN_le (x := itC a x (24 + 1)) 25; omega
theorem it_mono {a x : Int32} {j : Nat} {i : Nat} (h : btI (itC a x i) j = true) : ∀ k, i ≤ k → btI (itC a x k) j = true
  | 0 => fun hk => by rw [show i = 0 by omega] at h; exact h
  | k + 1 => fun hk => by
    by_cases e : i = k + 1
    · rw [← e]; exact h
    · exact more_sub (it_mono h k (by omega))
