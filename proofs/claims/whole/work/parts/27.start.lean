/-! THE START: what the Statement gives of strings and static rows; written by program -/
def sBt : List (List Nat) := [[112, 101, 97, 116, 32, 119, 97, 116, 101, 114, 32, 100, 114, 97, 105, 110, 32, 116, 117, 114, 118, 101, 115, 32, 104, 101, 97, 114, 116, 104, 32, 114, 105, 103, 104, 116, 32, 115, 117, 110, 32, 115, 104, 111, 119, 101, 114, 32, 114, 97, 105, 110, 32, 100, 97, 121], [100, 114, 121], [104, 97, 110, 100, 115], [110, 101, 101, 100], [115, 116, 111, 114, 101], [116, 104, 101, 32, 116, 101, 120, 116, 32, 105, 115, 32, 119, 114, 111, 110, 103], [116, 104, 101, 114, 101, 32, 97, 114, 101, 32, 116, 119, 101, 108, 118, 101, 32, 116, 101, 120, 116, 115], [100, 114, 121, 32, 115, 111, 97, 107, 32, 115, 105, 110, 107], [105, 102], [110, 111, 116], [100, 114, 97, 105, 110, 101, 100, 32, 114, 97, 105, 110, 32, 108, 97, 105, 100], [99, 101, 108, 108, 32, 120, 32, 121, 32, 100, 101, 112, 116, 104, 32, 119, 97, 116, 101, 114, 32, 116, 117, 114, 118, 101, 115, 32, 115, 117, 110], [97, 110, 100], [111, 114], [116, 104, 101, 114, 101, 32, 105, 115, 32, 110, 111, 32, 115, 117, 99, 104, 32, 99, 101, 108, 108], [110, 111, 116, 104, 105, 110, 103, 32, 115, 117, 99, 104, 32, 105, 115, 32, 116, 111, 108, 100, 32, 111, 102, 32, 97, 32, 99, 101, 108, 108], [116, 104, 101, 114, 101, 32, 105, 115, 32, 110, 111, 32, 115, 117, 99, 104, 32, 104, 101, 97, 114, 116, 104], [110, 111, 116, 104, 105, 110, 103, 32, 115, 117, 99, 104, 32, 105, 115, 32, 116, 111, 108, 100, 32, 111, 102, 32, 97, 32, 104, 101, 97, 114, 116, 104], [115, 111, 32, 109, 97, 110, 121, 32, 100, 97, 121, 115, 32, 97, 114, 101, 32, 110, 111, 110, 101], [116, 104, 101, 32, 104, 101, 97, 114, 116, 104, 32, 109, 97, 121, 32, 110, 111, 116, 32, 99, 117, 116, 32, 116, 104, 101, 114, 101], [116, 104, 101, 115, 101, 32, 99, 97, 110, 110, 111, 116, 32, 98, 101, 32, 102, 111, 111, 116, 101, 100, 32, 111, 114, 32, 114, 105, 99, 107, 101, 100], [116, 104, 101, 115, 101, 32, 99, 97, 110, 110, 111, 116, 32, 98, 101, 32, 99, 97, 114, 116, 101, 100, 32, 104, 111, 109, 101], [116, 104, 97, 116, 32, 105, 115, 32, 110, 111, 32, 116, 114, 97, 100, 101], [116, 104, 101, 32, 115, 116, 111, 114, 101, 32, 105, 115, 32, 108, 101, 115, 115], [116, 104, 101, 114, 101, 32, 105, 115, 32, 110, 111, 32, 115, 117, 99, 104, 32, 115, 117, 110], [116, 104, 101, 32, 116, 97, 112, 101, 32, 116, 101, 108, 108, 115, 32, 110, 111, 32, 115, 117, 99, 104, 32, 99, 101, 108, 108, 115], [116, 104, 101, 32, 116, 97, 112, 101, 32, 116, 101, 108, 108, 115, 32, 110, 111, 32, 115, 117, 99, 104, 32, 114, 111, 119, 115], [98, 111, 116, 104, 32, 97, 114, 101, 32, 111, 110, 101], [116, 104, 101, 114, 101, 32, 105, 115, 32, 110, 111, 32, 115, 117, 99, 104, 32, 115, 116, 97, 103, 101], [110, 111, 116, 104, 105, 110, 103, 32, 115, 117, 99, 104, 32, 105, 115, 32, 116, 111, 108, 100, 32, 111, 102, 32, 100, 97, 121, 115, 32, 97, 104, 101, 97, 100], [110, 111, 116, 104, 105, 110, 103, 32, 115, 117, 99, 104, 32, 105, 115, 32, 116, 111, 108, 100, 32, 105, 110, 32, 116, 104, 101, 32, 108, 111, 103], [112, 101, 97, 116], [119, 97, 116, 101, 114], [100, 114, 97, 105, 110], [116, 117, 114, 118, 101, 115], [100, 114, 121], [104, 101, 97, 114, 116, 104], [104, 97, 110, 100, 115], [110, 101, 101, 100], [115, 116, 111, 114, 101], [114, 105, 103, 104, 116], [115, 117, 110], [115, 104, 111, 119, 101, 114], [114, 97, 105, 110], [100, 97, 121], [115, 111, 97, 107], [115, 105, 110, 107], [105, 102], [110, 111, 116], [100, 114, 97, 105, 110, 101, 100], [108, 97, 105, 100], [99, 101, 108, 108], [120], [121], [100, 101, 112, 116, 104], [97, 110, 100], [111, 114]]
def sPs : List Nat := [118, 178, 185, 194, 202, 211, 232, 258, 275, 281, 288, 309, 344, 351, 357, 382, 416, 443, 479, 504, 536, 572, 603, 623, 644, 668, 700, 731, 747, 773, 811, 846, 854, 863, 872, 882, 890, 900, 910, 919, 929, 938, 945, 955, 963, 970, 978, 986, 993, 1001, 1012, 1020, 1028, 1033, 1038, 1047, 1055]
def sB (i : Nat) : List Nat := sBt.getD i []
def sTm (i : Nat) : Term := .string (cN (sOwn.getD i (0, 0)).1) (sOwn.getD i (0, 0)).2
def sVl (i : Nat) : Term := .field (sTm i) "java/lang/String" "value" "[B"
def strW (i : Nat) : List Cond := [.exactly (sTm i) "java/lang/String", .eq (.field (sTm i) "java/lang/String" "coder" "B") (.int 0), .arrayOf (sVl i) .byte, .eq (.length (sVl i)) (.int (Int32.ofNat (sB i).length))] ++ (List.range (sB i).length).map fun j => .eq (.elem (sVl i) (.int (Int32.ofNat j))) (.int (Int32.ofNat ((sB i).getD j 0)))
def lawC : Cond := .and given_1 narrow_1
set_option maxRecDepth 1000000 in
set_option maxHeartbeats 4000000 in
theorem str_ok : (List.range 57).map strW = (List.range 57).map (fun i => ((flatC lawC).drop (sPs.getD i 0)).take ((sB i).length + 4)) := by with_unfolding_all rfl
def cPs : List (List Nat) := [[0, 65, 81, 97, 113], [49, 0, 82, 98, 114], [51, 67, 0, 100, 116], [52, 68, 84, 0, 117], [53, 69, 85, 101, 0]]
set_option maxRecDepth 1000000 in
set_option maxHeartbeats 4000000 in
theorem cast_ok : (List.range 5).all (fun c => (List.range 5).all fun d => Nat.beq c d || decide ((flatC lawC)[(cPs.getD c []).getD d 0]? = some (.not (.castable (cN (14 + c)) (cN (14 + d)))))) = true := by decide +kernel
def rVl (k : Nat) : List Nat := match k with
  | 1000 => [11881376, 456976, 17576, 676, 26, 1]
  | 1001 => [16807, 2401, 343, 49, 7, 1]
  | _ => [1, 100, 10000, 1000000, 100000000, 10000000000]
def rTm (k : Nat) : Term := .static (sFl k).1 (sFl k).2.1 (sFl k).2.2
def rPs (k : Nat) : Nat := match k with
  | 1000 => 11
  | 1001 => 20
  | _ => 29
def rowW (k : Nat) : List Cond := [.isRef (rTm k), .arrayOf (rTm k) .long, .eq (.length (rTm k)) (.int (Int32.ofNat 6))] ++ (List.range 6).map fun j => .eq (.elem (rTm k) (.int (Int32.ofNat j))) (.long (Int64.ofNat ((rVl k).getD j 0)))
set_option maxRecDepth 1000000 in
set_option maxHeartbeats 4000000 in
theorem row_ok : [1000, 1001, 1002].map rowW = [1000, 1001, 1002].map (fun k => ((flatC lawC).drop (rPs k)).take 9) := by with_unfolding_all rfl
set_option maxRecDepth 1000000 in
theorem one_ok : Cond.eq (.static "java/lang/String" "COMPACT_STRINGS" "Z") (.int 1) ∈ flatC lawC ∧ Cond.isRef (.static "jdk/internal/util/Preconditions" "SIOOBE_FORMATTER" "Ljava/util/function/BiFunction;") ∈ flatC lawC ∧ Cond.isRef (.static "java/lang/Throwable" "UNASSIGNED_STACK" "[Ljava/lang/StackTraceElement;") ∈ flatC lawC ∧ Cond.isRef (.static "java/lang/Throwable" "SUPPRESSED_SENTINEL" "Ljava/util/List;") ∈ flatC lawC :=
  ⟨List.mem_of_getElem? (i := 4) (by with_unfolding_all rfl), List.mem_of_getElem? (i := 5) (by with_unfolding_all rfl), List.mem_of_getElem? (i := 9) (by with_unfolding_all rfl), List.mem_of_getElem? (i := 10) (by with_unfolding_all rfl)⟩
/-! from the atoms to what is known at the start -/
section ST
variable {s : State} {args : Array Value}
theorem str_in (h : lawC.before args s = true) {i : Nat} (hi : i < 57) : ∀ w ∈ strW i, w.before args s = true := by
  intro w hw
  have h1 := congrArg (fun l => l[i]?) str_ok
  simp only [List.getElem?_map, List.getElem?_range hi, Option.map_some, Option.some.injEq] at h1
  rw [h1] at hw
  exact flat_of_before _ h w (List.mem_of_mem_drop (List.mem_of_mem_take hw))
theorem row_in (h : lawC.before args s = true) {k : Nat} (hk : 1000 ≤ k) (hk2 : k < 1003) : ∀ w ∈ rowW k, w.before args s = true := by
  intro w hw
  have hm : (k = 1000 ∨ k = 1001) ∨ k = 1002 := by omega
  have h1 := row_ok
  simp only [List.map_cons, List.map_nil, List.cons.injEq, and_true] at h1
  rcases hm with (rfl | rfl) | rfl
  · rw [h1.1] at hw; exact flat_of_before _ h w (List.mem_of_mem_drop (List.mem_of_mem_take hw))
  · rw [h1.2.1] at hw; exact flat_of_before _ h w (List.mem_of_mem_drop (List.mem_of_mem_take hw))
  · rw [h1.2.2] at hw; exact flat_of_before _ h w (List.mem_of_mem_drop (List.mem_of_mem_take hw))
theorem cast_in (h : lawC.before args s = true) {c d : Nat} (h1 : 14 ≤ c) (h2 : c < 19) (h3 : 14 ≤ d) (h4 : d < 19) (hne : c ≠ d) {x y : ClassId} (hx : s.vm.findClass (cN c) = some x) (hy : s.vm.findClass (cN d) = some y) : s.vm.assignable x y = false := by
  have k1 := List.all_eq_true.mp (List.all_eq_true.mp cast_ok (c - 14) (List.mem_range.mpr (by omega))) (d - 14) (List.mem_range.mpr (by omega))
  have hb : Nat.beq (c - 14) (d - 14) = false := by
    cases q : Nat.beq (c - 14) (d - 14) with
    | false => rfl
    | true => exact absurd (Nat.eq_of_beq_eq_true q) (by omega)
  rw [hb, Bool.false_or, show 14 + (c - 14) = c from by omega, show 14 + (d - 14) = d from by omega] at k1
  have k2 := flat_of_before _ h _ (List.mem_of_getElem? (of_decide_eq_true k1))
  simp only [Cond.before, Cond.holds, Cond.value, hx, hy] at k2
  cases hv : s.vm.assignable x y with
  | false => rfl
  | true => rw [hv] at k2; simp at k2
/-- the string i and its bytes -/
theorem str_at {A : Nat → Prop} (h : lawC.before args s = true) (hA : ∀ a : Nat, a < s.heap.size → ¬ A a) {i : Nat} (hi : i < 57) : ∃ q : Nat × Nat, (sTm i).eval args s none [] s = some (.ref q.1) ∧ va_O "java/lang/String" q.1 A s s.heap ∧ va_OF "java/lang/String" "coder" "B" (.int 0) q.1 A s s.heap ∧ va_OF "java/lang/String" "value" "[B" (.ref q.2) q.1 A s s.heap ∧ va_T .byte q.2 (sB i).length (fun j => .int (Int32.ofNat ((sB i).getD j 0))) A s s.heap := by
  have hw := str_in h hi
  have hlen : (sB i).length < 2 ^ 31 := by
    have hall : (List.range 57).all (fun i => Nat.blt (sB i).length 1000) = true := by decide +kernel
    have := Nat.blt_eq.mp (List.all_eq_true.mp hall i (List.mem_range.mpr hi))
    omega
  obtain ⟨a, c, cA, kA, q1, q2, q3, q4, q5, q6, -⟩ := Cond.exactly_spec (args := args) (first := s) (o := none) (s := s) (idx := []) (t := sTm i) (cls := "java/lang/String") (hw _ (by simp [strW]))
  obtain ⟨t, ht, hT⟩ := va_Tof (f := fun j => .int (Int32.ofNat ((sB i).getD j 0))) (A := A) (tm := sVl i) hlen (hw (.arrayOf (sVl i) .byte) (by simp [strW])) (va_eqt (hw (.eq (.length (sVl i)) (.int (Int32.ofNat (sB i).length))) (by simp [strW]))) (fun j hj => va_eqt (hw _ (by
    unfold strW
    exact List.mem_append_right _ (List.mem_map.mpr ⟨j, List.mem_range.mpr hj, rfl⟩)))) hA
  exact ⟨(a, t), q1, ⟨cA, q3, q5, by rw [q6]; exact q2, hA a (Array.getElem?_eq_some_iff.mp q3).1⟩, vk_OFof q1 (va_eqt (hw (.eq (.field (sTm i) "java/lang/String" "coder" "B") (.int 0)) (by simp [strW]))) hA, vk_OFof q1 ht hA, hT⟩
theorem row_at {A : Nat → Prop} (h : lawC.before args s = true) (hA : ∀ a : Nat, a < s.heap.size → ¬ A a) {k : Nat} (hk : 1000 ≤ k) (hk2 : k < 1003) : ∃ t : Nat, (rTm k).eval args s none [] s = some (.ref t) ∧ va_T .long t 6 (fun j => .long (Int64.ofNat ((rVl k).getD j 0))) A s s.heap := by
  have hw := row_in h hk hk2
  exact va_Tof (f := fun j => .long (Int64.ofNat ((rVl k).getD j 0))) (A := A) (tm := rTm k) (by decide) (hw (.arrayOf (rTm k) .long) (by simp [rowW])) (va_eqt (hw (.eq (.length (rTm k)) (.int (Int32.ofNat 6))) (by simp [rowW]))) (fun j hj => va_eqtl (hw _ (by
    unfold rowW
    exact List.mem_append_right _ (List.mem_map.mpr ⟨j, List.mem_range.mpr hj, rfl⟩)))) hA
end ST
/-- words of static fields -/
theorem w_stat : Cond.laysStatic "java/lang/String" "COMPACT_STRINGS" "Z" ∈ lw_tbl ∧ Cond.laysStatic "jdk/internal/util/Preconditions" "SIOOBE_FORMATTER" "Ljava/util/function/BiFunction;" ∈ lw_tbl ∧ Cond.laysStatic "java/lang/Throwable" "UNASSIGNED_STACK" "[Ljava/lang/StackTraceElement;" ∈ lw_tbl ∧ Cond.laysStatic "java/lang/Throwable" "SUPPRESSED_SENTINEL" "Ljava/util/List;" ∈ lw_tbl ∧ Cond.laysStatic "TurfBog$Matching" "CELL_DIGITS" "[J" ∈ lw_tbl ∧ Cond.laysStatic "TurfBog$Matching" "PAIR_DIGITS" "[J" ∈ lw_tbl ∧ Cond.laysStatic "TurfBog" "HUNDREDS" "[J" ∈ lw_tbl :=
  ⟨List.mem_of_getElem? (i := 733) (by decide +kernel), List.mem_of_getElem? (i := 749) (by decide +kernel), List.mem_of_getElem? (i := 848) (by decide +kernel), List.mem_of_getElem? (i := 850) (by decide +kernel), List.mem_of_getElem? (i := 1350) (by decide +kernel), List.mem_of_getElem? (i := 1389) (by decide +kernel), List.mem_of_getElem? (i := 1415) (by decide +kernel)⟩
theorem w_ini : Cond.initialized "java/lang/String" ∈ lw_tbl ∧ Cond.initialized "jdk/internal/util/Preconditions" ∈ lw_tbl ∧ Cond.initialized "java/lang/Throwable" ∈ lw_tbl :=
  ⟨List.mem_of_getElem? (i := 141) (by decide +kernel), List.mem_of_getElem? (i := 143) (by decide +kernel), List.mem_of_getElem? (i := 145) (by decide +kernel)⟩
set_option maxRecDepth 1000000 in
theorem w_strs : (List.range 57).all (fun i => lw_tbl.any fun w => decide (w = .stringRef (cN (sOwn.getD i (0, 0)).1) (sOwn.getD i (0, 0)).2 (sTx.getD i ""))) = true := by decide +kernel
/-! the light machine's memory at the start: strings, static rows, the script -/
def lmScr : Nat := lmB + 2000
def st0 (L : Nat) (xs : Nat → Int32) : Lm :=
  (fun a => if a < lmB then (0, 0) else if a - lmB < 114 then (if (a - lmB) % 2 = 0 then (13, 0) else (52, (sB ((a - lmB) / 2)).length)) else if 1000 ≤ a - lmB ∧ a - lmB < 1003 then (51, 6) else if a - lmB = 2000 then (50, L) else (0, 0),
   fun a j => if a < lmB then 0 else if a - lmB < 114 then (if (a - lmB) % 2 = 0 then 0 else Int32.ofNat ((sB ((a - lmB) / 2)).getD j 0)) else if a - lmB = 2000 then xs j else 0,
   fun a j => if a < lmB then 0 else if 1000 ≤ a - lmB ∧ a - lmB < 1003 then Int64.ofNat ((rVl (a - lmB)).getD j 0) else 0,
   fun a j => if a < lmB then none else if a - lmB < 114 ∧ (a - lmB) % 2 = 0 ∧ j = 0 then some (a + 1) else none, 0, 0)
theorem st0_K {L : Nat} {xs : Nat → Int32} {a : Nat} (h : ¬ (lmK (st0 L xs) a).1 = 0) : lmB ≤ a ∧ ((∃ i, i < 57 ∧ a = lmB + 2 * i ∧ lmK (st0 L xs) a = (13, 0)) ∨ (∃ i, i < 57 ∧ a = lmB + (2 * i + 1) ∧ lmK (st0 L xs) a = (52, (sB i).length)) ∨ (∃ k, 1000 ≤ k ∧ k < 1003 ∧ a = lmB + k ∧ lmK (st0 L xs) a = (51, 6)) ∨ (a = lmScr ∧ lmK (st0 L xs) a = (50, L))) := by
  have e : lmK (st0 L xs) a = (if a < lmB then (0, 0) else if a - lmB < 114 then (if (a - lmB) % 2 = 0 then (13, 0) else (52, (sB ((a - lmB) / 2)).length)) else if 1000 ≤ a - lmB ∧ a - lmB < 1003 then (51, 6) else if a - lmB = 2000 then (50, L) else (0, 0)) := rfl
  rw [e] at h ⊢
  by_cases h1 : a < lmB
  · rw [if_pos h1] at h; exact absurd rfl h
  · rw [if_neg h1] at h ⊢
    refine ⟨by omega, ?_⟩
    by_cases h2 : a - lmB < 114
    · rw [if_pos h2]
      by_cases h3 : (a - lmB) % 2 = 0
      · left; exact ⟨(a - lmB) / 2, by omega, by omega, by rw [if_pos h3]⟩
      · right; left; exact ⟨(a - lmB) / 2, by omega, by omega, by rw [if_neg h3]⟩
    · rw [if_neg h2] at h ⊢
      by_cases h3 : 1000 ≤ a - lmB ∧ a - lmB < 1003
      · right; right; left; exact ⟨a - lmB, h3.1, h3.2, by omega, by rw [if_pos h3]⟩
      · rw [if_neg h3] at h ⊢
        by_cases h4 : a - lmB = 2000
        · right; right; right; exact ⟨by unfold lmScr; omega, by rw [if_pos h4]⟩
        · rw [if_neg h4] at h; exact absurd rfl h
section SG
variable (s : State) (ad : Nat → Nat × Nat) (rw_ : Nat → Nat) (b L : Nat) (xs : Nat → Int32)
def gd0 : Nat → Nat := fun a => if a < lmB then s.heap.size + a else if a - lmB < 114 then (if (a - lmB) % 2 = 0 then (ad ((a - lmB) / 2)).1 else (ad ((a - lmB) / 2)).2) else if 1000 ≤ a - lmB ∧ a - lmB < 1003 then rw_ (a - lmB) else b
def gc0 : Nat → ClassId := fun c => (s.vm.findClass (cN c)).getD 0
def gi0 : Nat → Nat → Nat := fun c k => match s.fieldFound? (cF c k).1 (cF c k).2.1 (cF c k).2.2.1 with
  | some q => q.2.2.2.slot
  | none => 0
def ga0 : Nat → ClassId := fun k => (s.vm.findClass ("[" ++ (aTy k).toString)).getD 0
def gx0 : Nat → Array Value := fun c => match s.vm.classes[gc0 s c]? with
  | some k => k.instanceTypes.map defaultValue
  | none => #[]
def g0 : LG := (gc0 s, gi0 s, ga0 s, s.heap, gd0 s ad rw_ b, st0 L xs, gx0 s)
theorem gd0_new {a : Nat} (h : a < lmB) : gd0 s ad rw_ b a = s.heap.size + a := by unfold gd0; rw [if_pos h]
theorem gd0_str {i : Nat} (h : i < 57) : gd0 s ad rw_ b (lmB + 2 * i) = (ad i).1 := by
  unfold gd0
  rw [if_neg (by omega), if_pos (by omega), if_pos (by omega), show (lmB + 2 * i - lmB) / 2 = i from by omega]
theorem gd0_byt {i : Nat} (h : i < 57) : gd0 s ad rw_ b (lmB + (2 * i + 1)) = (ad i).2 := by
  unfold gd0
  rw [if_neg (by omega), if_pos (by omega), if_neg (by omega), show (lmB + (2 * i + 1) - lmB) / 2 = i from by omega]
theorem gd0_row {k : Nat} (h : 1000 ≤ k) (h2 : k < 1003) : gd0 s ad rw_ b (lmB + k) = rw_ k := by
  unfold gd0
  rw [if_neg (by omega), if_neg (by omega), if_pos (by omega), show lmB + k - lmB = k from by omega]
theorem gd0_scr : gd0 s ad rw_ b lmScr = b := by
  unfold gd0 lmScr
  rw [if_neg (by omega), if_neg (by omega), if_neg (by omega)]
end SG
theorem st0_Istr {L : Nat} {xs : Nat → Int32} {i : Nat} (h : i < 57) (j : Nat) : lmI (st0 L xs) (lmB + 2 * i) j = 0 := by
  show (if lmB + 2 * i < lmB then (0 : Int32) else _) = _
  rw [if_neg (by omega), if_pos (by omega), if_pos (by omega)]
theorem st0_Ibyt {L : Nat} {xs : Nat → Int32} {i : Nat} (h : i < 57) (j : Nat) : lmI (st0 L xs) (lmB + (2 * i + 1)) j = Int32.ofNat ((sB i).getD j 0) := by
  show (if lmB + (2 * i + 1) < lmB then (0 : Int32) else _) = _
  rw [if_neg (by omega), if_pos (by omega), if_neg (by omega), show (lmB + (2 * i + 1) - lmB) / 2 = i from by omega]
theorem st0_Iscr {L : Nat} {xs : Nat → Int32} (j : Nat) : lmI (st0 L xs) lmScr j = xs j := by
  have h1 : ¬ lmScr < lmB := by unfold lmScr; omega
  have h2 : lmScr - lmB = 2000 := by unfold lmScr; omega
  show (if lmScr < lmB then (0 : Int32) else if lmScr - lmB < 114 then (if (lmScr - lmB) % 2 = 0 then 0 else Int32.ofNat ((sB ((lmScr - lmB) / 2)).getD j 0)) else if lmScr - lmB = 2000 then xs j else 0) = _
  rw [if_neg h1, h2, if_neg (by omega), if_pos rfl]
theorem st0_Lrow {L : Nat} {xs : Nat → Int32} {k : Nat} (h : 1000 ≤ k) (h2 : k < 1003) (j : Nat) : lmL (st0 L xs) (lmB + k) j = Int64.ofNat ((rVl k).getD j 0) := by
  show (if lmB + k < lmB then (0 : Int64) else _) = _
  rw [if_neg (by omega), if_pos (by omega), show lmB + k - lmB = k from by omega]
theorem st0_Rstr {L : Nat} {xs : Nat → Int32} {i : Nat} (h : i < 57) : lmR (st0 L xs) (lmB + 2 * i) 0 = some (lmB + (2 * i + 1)) := by
  show (if lmB + 2 * i < lmB then none else _) = _
  rw [if_neg (by omega), if_pos ⟨by omega, by omega, rfl⟩, Nat.add_assoc]
section SK
variable {s : State} {args : Array Value} {ad : Nat → Nat × Nat} {rwd : Nat → Nat} {b L : Nat} {xs : Nat → Int32}
theorem gc0_of {c : Nat} {x : ClassId} (h : s.vm.findClass (cN c) = some x) : gc0 s c = x := by unfold gc0; rw [h]; rfl
theorem ga0_of {k : Nat} {x : ClassId} (h : s.vm.findClass ("[" ++ (aTy k).toString) = some x) : ga0 s k = x := by unfold ga0; rw [h]; rfl
/-- what the start gives of the strings' and rows' addresses -/
def Ads (s : State) (args : Array Value) (ad : Nat → Nat × Nat) (rwd : Nat → Nat) (A : Nat → Prop) : Prop :=
  (∀ i, i < 57 → (sTm i).eval args s none [] s = some (.ref (ad i).1) ∧ va_O "java/lang/String" (ad i).1 A s s.heap ∧ va_OF "java/lang/String" "coder" "B" (.int 0) (ad i).1 A s s.heap ∧ va_OF "java/lang/String" "value" "[B" (.ref (ad i).2) (ad i).1 A s s.heap ∧ va_T .byte (ad i).2 (sB i).length (fun j => .int (Int32.ofNat ((sB i).getD j 0))) A s s.heap) ∧
  ∀ k, 1000 ≤ k → k < 1003 → (rTm k).eval args s none [] s = some (.ref (rwd k)) ∧ va_T .long (rwd k) 6 (fun j => .long (Int64.ofNat ((rVl k).getD j 0))) A s s.heap
theorem ads_of {A : Nat → Prop} (h : lawC.before args s = true) (hA : ∀ a : Nat, a < s.heap.size → ¬ A a) : ∃ (ad : Nat → Nat × Nat) (rwd : Nat → Nat), Ads s args ad rwd A := by
  have h0 : ∀ i : Nat, ∃ q : Nat × Nat, i < 57 → (sTm i).eval args s none [] s = some (.ref q.1) ∧ va_O "java/lang/String" q.1 A s s.heap ∧ va_OF "java/lang/String" "coder" "B" (.int 0) q.1 A s s.heap ∧ va_OF "java/lang/String" "value" "[B" (.ref q.2) q.1 A s s.heap ∧ va_T .byte q.2 (sB i).length (fun j => .int (Int32.ofNat ((sB i).getD j 0))) A s s.heap := by
    intro i
    by_cases hi : i < 57
    · obtain ⟨q, hq⟩ := str_at h hA hi
      exact ⟨q, fun _ => hq⟩
    · exact ⟨(0, 0), fun z => absurd z hi⟩
  have h1 : ∀ k : Nat, ∃ t : Nat, 1000 ≤ k → k < 1003 → (rTm k).eval args s none [] s = some (.ref t) ∧ va_T .long t 6 (fun j => .long (Int64.ofNat ((rVl k).getD j 0))) A s s.heap := by
    intro k
    by_cases hk : 1000 ≤ k ∧ k < 1003
    · obtain ⟨q, hq⟩ := row_at h hA hk.1 hk.2
      exact ⟨q, fun _ _ => hq⟩
    · exact ⟨0, fun z z2 => absurd ⟨z, z2⟩ hk⟩
  obtain ⟨ad, had⟩ := Classical.axiomOfChoice h0
  obtain ⟨rwd, hrw⟩ := Classical.axiomOfChoice h1
  exact ⟨ad, rwd, had, hrw⟩
theorem ad_0 (hAd : Ads s args ad rwd (fun q => s.heap.size ≤ q)) (hb : b < s.heap.size) : Ad (g0 s ad rwd b L xs) := by
  refine ⟨fun a ha => gd0_new s ad rwd b ha, fun a ha hk => ?_⟩
  obtain ⟨-, hc⟩ := st0_K (L := L) (xs := xs) hk
  rcases hc with ⟨i, hi, rfl, hk2⟩ | ⟨i, hi, rfl, hk2⟩ | ⟨k, h1, h2, rfl, hk2⟩ | ⟨rfl, hk2⟩
  · refine ⟨?_, Or.inl (by show (lmK (st0 L xs) _).1 = 13; rw [hk2])⟩
    show gd0 s ad rwd b _ < s.heap.size
    rw [gd0_str s ad rwd b hi]
    obtain ⟨cell, q, -⟩ := (hAd.1 i hi).2.1
    exact (Array.getElem?_eq_some_iff.mp q).1
  · refine ⟨?_, Or.inr (by show 50 ≤ (lmK (st0 L xs) _).1; rw [hk2]; show 50 ≤ 52; omega)⟩
    show gd0 s ad rwd b _ < s.heap.size
    rw [gd0_byt s ad rwd b hi]
    obtain ⟨cell, q, -⟩ := (hAd.1 i hi).2.2.2.2
    exact (Array.getElem?_eq_some_iff.mp q).1
  · refine ⟨?_, Or.inr (by show 50 ≤ (lmK (st0 L xs) _).1; rw [hk2]; show 50 ≤ 51; omega)⟩
    show gd0 s ad rwd b _ < s.heap.size
    rw [gd0_row s ad rwd b h1 h2]
    obtain ⟨cell, q, -⟩ := (hAd.2 k h1 h2).2
    exact (Array.getElem?_eq_some_iff.mp q).1
  · refine ⟨?_, Or.inr (by show 50 ≤ (lmK (st0 L xs) _).1; rw [hk2]; show 50 ≤ 50; omega)⟩
    show gd0 s ad rwd b lmScr < s.heap.size
    rw [gd0_scr]
    exact hb
theorem rep_0 : Rep (g0 s ad rwd b L xs) (st0 L xs) s.heap := by
  refine ⟨rfl, Nat.zero_le _, Nat.zero_le _, fun a ha => absurd ha (Nat.not_lt_zero a), fun q _ => rfl, fun a _ ha => ?_, fun a _ => ⟨rfl, rfl, rfl, rfl⟩⟩
  show (if a < lmB then (0, 0) else _) = _
  rw [if_pos ha]
theorem arr_0 (hts : ∀ w ∈ lw_tbl, w.before args s = true) {k : Nat} (hk : 50 ≤ k) (hk2 : k < 56) : ArrOfT s (ga0 s k) (aTy k) ∧ va_RA s (ga0 s k) (aTy k) := by
  obtain ⟨w0, w1, w2, w3, w4, w5⟩ := arrW
  have prim : ∀ {ty : FieldType}, aTy k = ty → (Cond.arrayClass ty).before args s = true → ArrOfT s (ga0 s k) ty ∧ s.vm.findClass ("[" ++ ty.toString) = some (ga0 s k) := by
    intro ty e h
    obtain ⟨c, kc, comp, h1, h2, h3⟩ := Cond.arrayClass_spec h
    have e1 : ga0 s k = c := ga0_of (by rw [e]; exact h1)
    rw [e1]
    exact ⟨fun n z => ⟨fun q hq => (by cases hq), kc, h2, comp, h3⟩, h1⟩
  have hm : k = 50 ∨ k = 51 ∨ k = 52 ∨ k = 53 ∨ k = 54 ∨ k = 55 := by omega
  rcases hm with rfl | rfl | rfl | rfl | rfl | rfl
  · exact prim rfl (hts _ w0)
  · exact prim rfl (hts _ w1)
  · exact prim rfl (hts _ w2)
  · exact prim rfl (hts _ w3)
  · obtain ⟨comp, c, kc, h1, h2, h3, h4, h5⟩ := Cond.arrayOver_spec (hts _ w4)
    have e1 : ga0 s 54 = c := ga0_of h5
    rw [e1]
    exact ⟨fun n z => ⟨fun q hq => (by cases hq), kc, h3, comp, h4⟩, kc, comp, h3, h4, h1, h5⟩
  · obtain ⟨comp, c, kc, h1, h2, h3, h4, h5⟩ := arrayOverA_spec (hts _ w5)
    have e1 : ga0 s 55 = c := ga0_of h5
    rw [e1]
    exact ⟨fun n z => ⟨fun q hq => (by cases hq), kc, h3, comp, h4⟩, h5⟩
theorem lSt_of {O f d : String} (h : (Cond.laysStatic O f d).before args s = true) : lSt O f d s s.heap := by
  obtain ⟨c, k, i, fd, a, cell, h1, h2, h3, h4, h5, h6, h7, h8, h9⟩ := Cond.laysStatic_spec h
  exact ⟨c, k, i, fd, a, cell, h1, h2, h3, h4, h5, h6, h7, h8, h9⟩
theorem kn_0 (hts : ∀ w ∈ lw_tbl, w.before args s = true) (hc : lawC.before args s = true) (hAd : Ads s args ad rwd (fun q => s.heap.size ≤ q)) (hX : va_X b L xs s s.heap) (hL : L ≤ 3072) : Kn (g0 s ad rwd b L xs) s := by
  have hO : ∀ a : Nat, a < s.heap.size → ¬ gO (g0 s ad rwd b L xs) a := fun a ha q => absurd (show s.heap.size ≤ a from q) (by omega)
  have hb : b < s.heap.size := by
    obtain ⟨scr, q, -⟩ := hX
    exact (Array.getElem?_eq_some_iff.mp q).1
  obtain ⟨s1, s2, s3, s4, s5, s6, s7⟩ := w_stat
  obtain ⟨i1, i2, i3⟩ := w_ini
  obtain ⟨o1, o2, o3, o4⟩ := one_ok
  have hat := flat_of_before _ hc
  refine ⟨fun c h1 h2 => ?_, fun c h1 h2 => ?_, fun k h1 h2 => arr_0 hts h1 h2, fun i q hi => ?_, fun a ha => ⟨fun hk => ?_, fun hk => ?_⟩, fun k h1 h2 => ?_, va_Zof (hts _ s1) (hts _ i1) (va_eqt (hat _ o1)) hO, va_Zqof (hts _ s3) (hts _ i3) (hat _ o3) hO, va_Zqof (hts _ s4) (hts _ i3) (hat _ o4) hO, va_Zqof (hts _ s2) (hts _ i2) (hat _ o2) hO, fun c d h1 h2 h3 h4 h5 => ?_, lSt_of (hts _ s3), lSt_of (hts _ s4), ?_⟩
  · -- classes
    obtain ⟨cC, iS, hk, hcl⟩ := u_known (C := cN c) (T := cF c) (N := cL c) hts (layW h2) (hts _ (clW h1 (by omega) (by omega)).2)
    have e1 : gc0 s c = cC := gc0_of hcl.1
    show u_Kn s (cN c) (cF c) (cL c) (gc0 s c) (gi0 s c)
    rw [e1]
    refine ⟨fun k hk2 => ?_, hcl⟩
    obtain ⟨cf, kf, fi, fd, q1, -⟩ := hk k hk2
    refine ⟨cf, kf, fi, fd, q1, ?_⟩
    unfold gi0
    rw [q1]
  · obtain ⟨c0, k0, q1, q2, q3, -⟩ := Cond.instantiable_spec (hts _ (clW (by omega : 1 ≤ c) h2 (by omega)).2)
    have e1 : gc0 s c = c0 := gc0_of q1
    show s.vm.findClass (cN c) = some (gc0 s c) ∧ ∃ k : Class, s.vm.classes[gc0 s c]? = some k ∧ k.kind = .ordinary ∧ k.instanceTypes.map defaultValue = gx0 s c
    refine ⟨by rw [e1]; exact q1, k0, by rw [e1]; exact q2, q3, ?_⟩
    unfold gx0
    rw [e1, q2]
  · -- strings' links
    have hi57 : i < 57 := by
      have := (List.getElem?_eq_some_iff.mp hi).1
      exact this
    have hgd : sOwn.getD i (0, 0) = q := by rw [List.getD_eq_getElem?_getD, hi]; rfl
    have hw := List.all_eq_true.mp w_strs i (List.mem_range.mpr hi57)
    obtain ⟨w, hw1, hw2⟩ := List.any_eq_true.mp hw
    have hw2 := of_decide_eq_true hw2
    subst hw2
    rw [hgd] at hw1
    have hev := (hAd.1 i hi57).1
    unfold sTm at hev
    rw [hgd] at hev
    show vk_R (cN q.1) q.2 (sTx.getD i "") (gd0 s ad rwd b (lmB + 2 * i)) s
    rw [gd0_str s ad rwd b hi57]
    exact vk_R.of (A := args) (hts _ hw1) hev
  · have hk' : (lmK (st0 L xs) a).1 = 13 := hk
    obtain ⟨-, hc⟩ := st0_K (L := L) (xs := xs) (a := a) (by rw [hk']; decide)
    rcases hc with ⟨i, hi, rfl, hk2⟩ | ⟨i, hi, rfl, hk2⟩ | ⟨k, h1, h2, rfl, hk2⟩ | ⟨rfl, hk2⟩
    · obtain ⟨-, q2, q3, q4, -⟩ := hAd.1 i hi
      show va_O "java/lang/String" (gd0 s ad rwd b (lmB + 2 * i)) _ s s.heap ∧ ∀ k, k < 2 → va_OF "java/lang/String" (cF 13 k).2.1 (cF 13 k).2.2.1 (lFv (g0 s ad rwd b L xs) (st0 L xs) 13 (lmB + 2 * i) k) (gd0 s ad rwd b (lmB + 2 * i)) _ s s.heap
      rw [gd0_str s ad rwd b hi]
      refine ⟨q2, fun k hk3 => ?_⟩
      have hm : k = 0 ∨ k = 1 := by omega
      rcases hm with rfl | rfl
      · have e : lFv (g0 s ad rwd b L xs) (st0 L xs) 13 (lmB + 2 * i) 0 = .ref (ad i).2 := by
          show lV (g0 s ad rwd b L xs) (lRef (lmR (st0 L xs) (lmB + 2 * i) 0)) = _
          rw [st0_Rstr hi]
          show Value.ref (gd0 s ad rwd b (lmB + (2 * i + 1))) = _
          rw [gd0_byt s ad rwd b hi]
        rw [e]
        exact q4
      · have e : lFv (g0 s ad rwd b L xs) (st0 L xs) 13 (lmB + 2 * i) 1 = .int 0 := by
          show Value.int (lmI (st0 L xs) (lmB + 2 * i) 1) = _
          rw [st0_Istr hi]
        rw [e]
        exact q3
    · rw [hk2] at hk'; exact absurd (show (52 : Nat) = 13 from hk') (by decide)
    · rw [hk2] at hk'; exact absurd (show (51 : Nat) = 13 from hk') (by decide)
    · rw [hk2] at hk'; exact absurd (show (50 : Nat) = 13 from hk') (by decide)
  · have hk' : 50 ≤ (lmK (st0 L xs) a).1 := hk
    obtain ⟨-, hc⟩ := st0_K (L := L) (xs := xs) (a := a) (by omega)
    show va_T (aTy (lmK (st0 L xs) a).1) (gd0 s ad rwd b a) (lmK (st0 L xs) a).2 (lAv (g0 s ad rwd b L xs) (st0 L xs) (lmK (st0 L xs) a).1 a) _ s s.heap
    rcases hc with ⟨i, hi, rfl, hk2⟩ | ⟨i, hi, rfl, hk2⟩ | ⟨k, h1, h2, rfl, hk2⟩ | ⟨rfl, hk2⟩
    · rw [hk2] at hk'; exact absurd (show (50 : Nat) ≤ 13 from hk') (by decide)
    · rw [hk2, gd0_byt s ad rwd b hi]
      have e : lAv (g0 s ad rwd b L xs) (st0 L xs) 52 (lmB + (2 * i + 1)) = fun j => .int (Int32.ofNat ((sB i).getD j 0)) := by
        funext j
        show Value.int (lmI (st0 L xs) (lmB + (2 * i + 1)) j) = _
        rw [st0_Ibyt hi]
      show va_T .byte _ (sB i).length (lAv (g0 s ad rwd b L xs) (st0 L xs) 52 (lmB + (2 * i + 1))) _ s s.heap
      rw [e]
      exact (hAd.1 i hi).2.2.2.2
    · rw [hk2, gd0_row s ad rwd b h1 h2]
      have e : lAv (g0 s ad rwd b L xs) (st0 L xs) 51 (lmB + k) = fun j => .long (Int64.ofNat ((rVl k).getD j 0)) := by
        funext j
        show Value.long (lmL (st0 L xs) (lmB + k) j) = _
        rw [st0_Lrow h1 h2]
      show va_T .long _ 6 (lAv (g0 s ad rwd b L xs) (st0 L xs) 51 (lmB + k)) _ s s.heap
      rw [e]
      exact (hAd.2 k h1 h2).2
    · rw [hk2, gd0_scr]
      have e : lAv (g0 s ad rwd b L xs) (st0 L xs) 50 lmScr = fun j => .int (xs j) := by
        funext j
        show Value.int (lmI (st0 L xs) lmScr j) = _
        rw [st0_Iscr]
      show va_T .int _ L (lAv (g0 s ad rwd b L xs) (st0 L xs) 50 lmScr) _ s s.heap
      rw [e]
      obtain ⟨scr, x1, x2, x3, x4, x5⟩ := hX
      exact ⟨scr, x1, x2, x3, by omega, by rw [x4], x5, hO b hb⟩
  · show va_Z (sFl k).1 (sFl k).2.1 (sFl k).2.2 (.ref (gd0 s ad rwd b (lmB + k))) _ s s.heap
    rw [gd0_row s ad rwd b h1 h2]
    have hev := (hAd.2 k h1 h2).1
    have hm : k = 1000 ∨ k = 1001 ∨ k = 1002 := by omega
    rcases hm with rfl | rfl | rfl
    · exact va_Zref (hts _ s5) (hts _ (clW (c := 11) (by decide) (by decide) (by decide)).1) hev hO
    · exact va_Zref (hts _ s6) (hts _ (clW (c := 11) (by decide) (by decide) (by decide)).1) hev hO
    · exact va_Zref (hts _ s7) (hts _ (clW (c := 1) (by decide) (by decide) (by decide)).1) hev hO
  · have hx : s.vm.findClass (cN c) = some (gc0 s c) := by
      obtain ⟨c0, k0, q1, -⟩ := Cond.instantiable_spec (hts _ (clW (by omega : 1 ≤ c) h2 (by omega)).2)
      rw [gc0_of q1]; exact q1
    have hy : s.vm.findClass (cN d) = some (gc0 s d) := by
      obtain ⟨c0, k0, q1, -⟩ := Cond.instantiable_spec (hts _ (clW (by omega : 1 ≤ d) h4 (by omega)).2)
      rw [gc0_of q1]; exact q1
    exact cast_in hc h1 h2 h3 h4 h5 hx hy
  · obtain ⟨w0, w1, w2, w3, w4, w5⟩ := arrW
    obtain ⟨comp, c, kc, h1, h2, h3, h4, h5⟩ := arrayOverA_spec (hts _ w5)
    obtain ⟨c', kc', comp', g1, g2, g3⟩ := Cond.arrayClass_spec (hts _ w0)
    have e1 : ga0 s 55 = c := ga0_of h5
    have e2 : ga0 s 50 = c' := ga0_of g1
    have e3 : comp = c' := Option.some.inj (h1.symm.trans g1)
    show ∃ (kA kB : Class) (cC : ClassId), s.vm.classes[ga0 s 55]? = some kA ∧ kA.kind = .array (ga0 s 50) (.array .int) ∧ s.vm.classes[ga0 s 50]? = some kB ∧ kB.kind = .array cC .int
    rw [e1, e2]
    exact ⟨kc, kc', comp', h3, by rw [← e3]; exact h4, g2, g3⟩
end SK
