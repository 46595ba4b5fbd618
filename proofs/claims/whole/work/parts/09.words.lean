/-! the words of the tables for each link and each method; written by program -/
def sTx : List String := ["peat water drain turves hearth right sun shower rain day", "dry", "hands", "need", "store", "the text is wrong", "there are twelve texts", "dry soak sink", "if", "not", "drained rain laid", "cell x y depth water turves sun", "and", "or", "there is no such cell", "nothing such is told of a cell", "there is no such hearth", "nothing such is told of a hearth", "so many days are none", "the hearth may not cut there", "these cannot be footed or ricked", "these cannot be carted home", "that is no trade", "the store is less", "there is no such sun", "the tape tells no such cells", "the tape tells no such rows", "both are one", "there is no such stage", "nothing such is told of days ahead", "nothing such is told in the log", "peat", "water", "drain", "turves", "dry", "hearth", "hands", "need", "store", "right", "sun", "shower", "rain", "day", "soak", "sink", "if", "not", "drained", "laid", "cell", "x", "y", "depth", "and", "or"]
def nestL : List (Nat × Nat) := [(1, 73), (1, 80), (1, 94), (2, 41)]
def y_objInit : MethodName := ⟨"java/lang/Object", "<init>", "()V"⟩
def y_copy : MethodName := ⟨"java/lang/System", "arraycopy", "(Ljava/lang/Object;ILjava/lang/Object;II)V"⟩
def y_clone : MethodName := ⟨"[I", "clone", "()Ljava/lang/Object;"⟩
def y_chk : MethodName := ⟨"java/lang/String", "checkIndex", "(II)V"⟩
def y_max : MethodName := ⟨"java/lang/Math", "max", "(II)I"⟩
def y_min : MethodName := ⟨"java/lang/Math", "min", "(II)I"⟩
def y_maxL : MethodName := ⟨"java/lang/Math", "max", "(JJ)J"⟩
def y_exc (c : Nat) : MethodName := ⟨cN c, "<init>", "(Ljava/lang/String;)V"⟩
def sFl (k : Nat) : String × String × String := match k with
  | 1000 => ("TurfBog$Matching", "CELL_DIGITS", "[J")
  | 1001 => ("TurfBog$Matching", "PAIR_DIGITS", "[J")
  | _ => ("TurfBog", "HUNDREDS", "[J")
/-- the word for a link -/
def lkW (c i : Nat) (k : Lk) : Option Cond := match k.1 with
  | 30 => some (.constant (cN c) i (Int32.ofNat k.2.1))
  | 31 => some (.constantLong (cN c) i (Int64.ofNat k.2.1))
  | 32 => some (.stringRef (cN c) i (sTx.getD (k.2.1 / 2) ""))
  | 40 => some (.fieldLink (cN c) i (sFl k.2.1).1 (sFl k.2.1).2.1 (sFl k.2.1).2.2)
  | 41 => some (.fieldLink (cN c) i "java/lang/String" "COMPACT_STRINGS" "Z")
  | 50 => (match mRow k.2.1 with
    | none => none
    | some r => bif nestL.elem (c, i) then some (.methodLinkNest (cN c) i (mY r) "TurfBog") else some (.methodLink (cN c) i (mY r)))
  | 51 => some (.methodLink (cN c) i y_objInit)
  | 52 => some (.methodLink (cN c) i (y_exc k.2.1))
  | 53 => some (.methodLink (cN c) i y_copy)
  | 54 => some (.methodLink (cN c) i y_clone)
  | 55 => some (.methodLink (cN c) i y_chk)
  | 56 => some (.methodLink (cN c) i y_max)
  | 57 => some (.methodLink (cN c) i y_min)
  | 58 => some (.methodLink (cN c) i y_maxL)
  | 60 => some (.classLink (cN c) i (cN k.2.1))
  | 62 => some (.classLink (cN c) i "[[I")
  | 63 => some (.classLink (cN c) i "[I")
  | _ => some (.fieldLink (cN c) i (cN k.2.1) (cF k.2.1 k.2.2).2.1 (cF k.2.1 k.2.2).2.2.1)
/-- tags that are known -/
def lkT (n : Nat) : Bool := [0, 1, 2, 10, 12, 30, 31, 32, 40, 41, 50, 51, 52, 53, 54, 55, 56, 57, 58, 60, 62, 63].elem n
/-- what else a link says: fields are fields of that class, of that type -/
def lkF (k : Lk) : Bool := match k.1 with
  | 0 => Nat.blt k.2.2 (cL k.2.1) && !(cRf k.2.1 k.2.2) && decide ((cF k.2.1 k.2.2).2.2.1 = "I") && !(cF k.2.1 k.2.2).2.2.2 && Nat.blt k.2.1 13
  | 1 => Nat.blt k.2.2 (cL k.2.1) && !(cRf k.2.1 k.2.2) && decide ((cF k.2.1 k.2.2).2.2.1 = "Z") && !(cF k.2.1 k.2.2).2.2.2 && Nat.blt k.2.1 13
  | 2 => Nat.blt k.2.2 (cL k.2.1) && cRf k.2.1 k.2.2 && !(cF k.2.1 k.2.2).2.2.2 && Nat.blt k.2.1 13
  | 10 => Nat.blt k.2.2 (cL k.2.1) && !(cRf k.2.1 k.2.2) && (decide ((cF k.2.1 k.2.2).2.2.1 = "I") || Nat.beq k.2.1 13) && (cF k.2.1 k.2.2).2.2.2 && Nat.blt k.2.1 14
  | 12 => Nat.blt k.2.2 (cL k.2.1) && cRf k.2.1 k.2.2 && (cF k.2.1 k.2.2).2.2.2 && Nat.blt k.2.1 14
  | 50 => (match mRow k.2.1 with
    | none => false
    | some r => Nat.beq k.2.2 (10000 * (bif r.1.2.2.2.1 then 2 else bif r.1.2.2.2.2 then 1 else 0) + 100 * r.2.2.2.2.2.2.1 + r.1.2.2.1) && Nat.blt r.2.2.2.2.2.2.1 100 && Nat.blt r.1.2.2.1 100)
  | 52 => Nat.ble 14 k.2.1 && Nat.blt k.2.1 19
  | 60 => Nat.ble 1 k.2.1 && Nat.blt k.2.1 19 && !(Nat.beq k.2.1 13)
  | _ => true
def okL (c : Nat) (q : Nat × Lk × Nat) : Bool := lkT q.2.1.1 && lkF q.2.1 && (match lkW c q.1 q.2.1 with
  | none => false
  | some w => decide (lw_tbl[q.2.2]? = some w))
def okLs (c : Nat) : Bool := (lkl c).all fun ch => ch.2.all (okL c)
theorem okL_0 : okLs 0 = true := by decide +kernel
theorem okL_1 : okLs 1 = true := by decide +kernel
theorem okL_2 : okLs 2 = true := by decide +kernel
theorem okL_3 : okLs 3 = true := by decide +kernel
theorem okL_4 : okLs 4 = true := by decide +kernel
theorem okL_5 : okLs 5 = true := by decide +kernel
theorem okL_6 : okLs 6 = true := by decide +kernel
theorem okL_7 : okLs 7 = true := by decide +kernel
theorem okL_8 : okLs 8 = true := by decide +kernel
theorem okL_9 : okLs 9 = true := by decide +kernel
theorem okL_10 : okLs 10 = true := by decide +kernel
theorem okL_11 : okLs 11 = true := by decide +kernel
theorem okL_12 : okLs 12 = true := by decide +kernel
theorem okL_13 : okLs 13 = true := by decide +kernel
theorem okL_14 : okLs 14 = true := by decide +kernel
theorem okL_15 : okLs 15 = true := by decide +kernel
theorem okL_16 : okLs 16 = true := by decide +kernel
theorem okL_17 : okLs 17 = true := by decide +kernel
theorem okL_18 : okLs 18 = true := by decide +kernel
theorem okL_19 : okLs 19 = true := by decide +kernel
theorem okL_20 : okLs 20 = true := by decide +kernel
theorem okL_21 : okLs 21 = true := by decide +kernel
theorem okL_22 : okLs 22 = true := by decide +kernel
theorem okL_23 : okLs 23 = true := by decide +kernel
theorem okL_24 : okLs 24 = true := by decide +kernel
theorem okL_25 : okLs 25 = true := by decide +kernel
theorem okL_26 : okLs 26 = true := by decide +kernel
theorem okLs_of (c : Nat) : okLs c = true := by
  match c with
  | 0 => exact okL_0
  | 1 => exact okL_1
  | 2 => exact okL_2
  | 3 => exact okL_3
  | 4 => exact okL_4
  | 5 => exact okL_5
  | 6 => exact okL_6
  | 7 => exact okL_7
  | 8 => exact okL_8
  | 9 => exact okL_9
  | 10 => exact okL_10
  | 11 => exact okL_11
  | 12 => exact okL_12
  | 13 => exact okL_13
  | 14 => exact okL_14
  | 15 => exact okL_15
  | 16 => exact okL_16
  | 17 => exact okL_17
  | 18 => exact okL_18
  | 19 => exact okL_19
  | 20 => exact okL_20
  | 21 => exact okL_21
  | 22 => exact okL_22
  | 23 => exact okL_23
  | 24 => exact okL_24
  | 25 => exact okL_25
  | 26 => exact okL_26
  | n + 27 => rfl
theorem lk_row_mem {i : Nat} {k : Lk} : ∀ {r : List (Nat × Lk × Nat)}, lk_row i r = some k → ∃ n, (i, k, n) ∈ r
  | [], h => by cases h
  | q :: r, h => by
    rw [lk_row] at h
    cases hb : Nat.beq q.1 i with
    | true =>
      rw [hb] at h
      have e : q.1 = i := Nat.eq_of_beq_eq_true hb
      have e2 : q.2.1 = k := Option.some.inj h
      refine ⟨q.2.2, ?_⟩
      rw [← e, ← e2]
      exact List.mem_cons_self
    | false =>
      rw [hb] at h
      obtain ⟨n, hn⟩ := lk_row_mem h
      exact ⟨n, List.mem_cons_of_mem _ hn⟩
theorem lk_at_mem {i : Nat} {k : Lk} {c : Nat} : ∀ {r : List (Nat × List (Nat × Lk × Nat))}, (r.all fun ch => ch.2.all (okL c)) = true → lk_at i r = some k → ∃ n, okL c (i, k, n) = true
  | [], _, h => by cases h
  | ch :: r, ok, h => by
    simp only [List.all_cons, Bool.and_eq_true] at ok
    rw [lk_at] at h
    cases hb : Nat.blt i ch.1 with
    | true =>
      rw [hb] at h
      obtain ⟨n, hm⟩ := lk_row_mem h
      exact ⟨n, List.all_eq_true.mp ok.1 _ hm⟩
    | false =>
      rw [hb] at h
      exact lk_at_mem (r := r) ok.2 h
/-- a link's word stands in the tables -/
theorem lk_ok {c i : Nat} {k : Lk} (h : lk c i = some k) : lkT k.1 = true ∧ lkF k = true ∧ ∃ w, lkW c i k = some w ∧ w ∈ lw_tbl := by
  obtain ⟨n, hn⟩ := lk_at_mem (okLs_of c) h
  simp only [okL, Bool.and_eq_true] at hn
  obtain ⟨⟨h1, h2⟩, h3⟩ := hn
  refine ⟨h1, h2, ?_⟩
  split at h3
  · cases h3
  · rename_i w hw
    exact ⟨w, hw, List.mem_of_getElem? (of_decide_eq_true h3)⟩
