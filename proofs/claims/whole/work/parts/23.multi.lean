/-! rows of int rows -/
section MU
variable {p : Program} {l : Launch} {e : Env} {R : Room} {s : State} {m : MethodId} {args : Array Value} {below : List Frame} {meth : Method} {c : Code} {H : Heap} {locs : List Loc} {cells slots : Nat} {Q : State → Prop}
variable {cc : ByteArray} {pc len nL : Nat} {re : Array Slot} {G : LG} {ls st : List Value} {t t0 : Lm} {i : Instr} {own : Nat}
/-- after j inner rows: the state, told by what it holds -/
def mlt (p : Program) (l : Launch) (e : Env) (R : Room) (s : State) (m : MethodId) (args : Array Value) (below : List Frame) (meth : Method) (c : Code) (locs : List Loc) (cells slots : Nat) (T : State) (f : JFrame) (cA cB : ClassId) (n k j : Nat) (s' : State) : Prop :=
  ∃ (S : State) (locs' : List Loc), s' = S.setTop f ∧ (∀ q ∈ locs', q ∈ locs ∨ q.base = T.heap.size) ∧ Stand p l e R s m args below meth c S locs' (cells + 1 + j) (slots + n + j * k) ∧ S.vm = T.vm ∧ S.heap.size = T.heap.size + 1 + j ∧ S.slotsUsed = T.slotsUsed + n + j * k ∧
    S.heap[T.heap.size]? = some (arrV cA n (fun x => if x < j then .ref (T.heap.size + 1 + x) else .null)) ∧ (∀ q, q < T.heap.size → S.heap[q]? = T.heap[q]?) ∧ ∀ x, x < j → S.heap[T.heap.size + 1 + x]? = some (arrV cB k (fun _ => .int 0))
theorem mlt_zero {T : State} (X : Stand p l e R s m args below meth c T locs cells slots) (f : JFrame) (cA cB : ClassId) (n k : Nat) : mlt p l e R s m args below meth c locs cells slots T f cA cB n k 0 ((T.setTop f).pushCell { cls := cA, slots := Array.replicate n .null }) := by
  refine ⟨T.pushCell (arrV cA n (fun _ => .null)), locs, ?_, fun q hq => Or.inl hq, ?_, rfl, ?_, ?_, ?_, fun q hq => State.heap_pushCell_of_lt _ _ hq, fun x hx => absurd hx (Nat.not_lt_zero _)⟩
  · rw [State.pushCell_setTop, show ({ cls := cA, slots := Array.replicate n .null } : Cell) = _ from arrV_new cA n .null]
  · have h := X.pushed (arrV cA n (fun _ => .null))
    rw [arrV_size] at h
    simpa using h
  · show (T.heap.push _).size = _
    rw [Array.size_push]
  · show T.slotsUsed + (arrV cA n (fun _ => .null)).slots.size = _
    rw [arrV_size]; omega
  · rw [State.heap_pushCell_size]
    congr 1
theorem mlt_step {T : State} {f : JFrame} {cA cB : ClassId} {n k j : Nat} {s' : State} (h : mlt p l e R s m args below meth c locs cells slots T f cA cB n k j s') (hj : j < n) :
    mlt p l e R s m args below meth c locs cells slots T f cA cB n k (j + 1) ((s'.pushCell { cls := cB, slots := Array.replicate k (.int 0) }).setCell T.heap.size ((arrV cA n (fun x => if x < j then .ref (T.heap.size + 1 + x) else .null)).setSlot j (.ref s'.heap.size))) := by
  obtain ⟨S, L, rfl, hL, X, h1, h2, h3, h4, h5, h6⟩ := h
  have hsz : (S.setTop f).heap.size = T.heap.size + 1 + j := h2
  have hlt : T.heap.size < S.heap.size := by rw [h2]; omega
  have hpc : (S.pushCell (arrV cB k (fun _ => .int 0))).heap[T.heap.size]? = some (arrV cA n (fun x => if x < j then .ref (T.heap.size + 1 + x) else .null)) := by rw [State.heap_pushCell_of_lt _ _ hlt]; exact h4
  have X2 := (X.pushed (arrV cB k (fun _ => .int 0))).stored hpc j (.ref (T.heap.size + 1 + j))
  rw [arrV_size] at X2
  refine ⟨(S.pushCell (arrV cB k (fun _ => .int 0))).setCell T.heap.size ((arrV cA n (fun x => if x < j then .ref (T.heap.size + 1 + x) else .null)).setSlot j (.ref (T.heap.size + 1 + j))), L ++ [⟨T.heap.size, j⟩], ?_, ?_, ?_, ?_, ?_, ?_, ?_, ?_, ?_⟩
  rotate_left 2
  · rw [show cells + 1 + (j + 1) = cells + 1 + j + 1 from by omega, show slots + n + (j + 1) * k = slots + n + j * k + k from by rw [Nat.succ_mul]; omega]
    exact X2
  · exact h1
  · show (((S.pushCell (arrV cB k (fun _ => .int 0))).heap).setIfInBounds _ _).size = _
    rw [Array.size_setIfInBounds]
    show (S.heap.push _).size = _
    rw [Array.size_push, h2]; omega
  · show S.slotsUsed + (arrV cB k (fun _ => .int 0)).slots.size = _
    rw [arrV_size, h3, Nat.succ_mul]; omega
  · rw [State.heap_setCell_self hpc, arrV_store]
    congr 1
    unfold arrV
    congr 2
    funext x
    unfold updV
    dsimp only
    by_cases e1 : x.val = j
    · rw [if_pos e1, if_pos (by omega), e1]
    · rw [if_neg e1]
      by_cases e2 : x.val < j
      · rw [if_pos e2, if_pos (by omega)]
      · rw [if_neg e2, if_neg (by omega)]
  · intro q hq
    rw [State.heap_setCell_other (Nat.ne_of_gt hq), State.heap_pushCell_of_lt _ _ (Nat.lt_trans hq hlt)]
    exact h5 q hq
  · intro x hx
    rw [State.heap_setCell_other (show T.heap.size ≠ T.heap.size + 1 + x from by omega)]
    by_cases e1 : x < j
    · rw [State.heap_pushCell_of_lt _ _ (show T.heap.size + 1 + x < S.heap.size from by rw [h2]; omega)]
      exact h6 x e1
    · have e2 : x = j := by omega
      subst e2
      rw [← h2]
      exact State.heap_pushCell_size _ _
  · show ((S.setTop f).pushCell _).setCell _ _ = _
    rw [State.pushCell_setTop, State.setCell_setTop, hsz, show ({ cls := cB, slots := Array.replicate k (.int 0) } : Cell) = _ from arrV_new cB k (.int 0)]
  · intro q hq
    rcases List.mem_append.mp hq with h | h
    · exact hL q h
    · right
      simp only [List.mem_cons, List.not_mem_nil, or_false] at h
      rw [h]
theorem mlt_make {T : State} (X : Stand p l e R s m args below meth c T locs cells slots) (f : JFrame) {E : CtlPost} {d : Bool} {acts : List Action} {cA cB cC : ClassId} {kA kB : Class} {n k : Int32} (hkA : T.vm.classes[cA]? = some kA) (hkindA : kA.kind = .array cB (.array .int)) (hkB : T.vm.classes[cB]? = some kB) (hkindB : kB.kind = .array cC .int) (hn : ¬ n < 0) (hk : ¬ k < 0) (hn6 : n.toNatClampNeg ≤ 65536) (hk6 : k.toNatClampNeg ≤ 65536)
    (hcells : cells + (1 + n.toNatClampNeg) ≤ R.cells) (hslots : slots + (n.toNatClampNeg + n.toNatClampNeg * k.toNatClampNeg) ≤ R.slots) {Q : Addr → Jvm.Pre}
    (hq : ∀ d' acts' s', mlt p l e R s m args below meth c locs cells slots T f cA cB n.toNatClampNeg k.toNatClampNeg n.toNatClampNeg s' → Q T.heap.size d' acts' s') : wp (multianewarray.make cA [n, k]) Q E e d acts (T.setTop f) := by
  obtain ⟨hr1, hr2⟩ := X.roomAbove hcells hslots
  have hl : ∀ x : Nat, x ≤ 65536 → ¬ x > e.platform.arrayLengthLimit := fun x hx => by rw [Launch.admits_arrayLengthLimit X.admits]; omega
  have hb : ∀ (x : Nat) (ty : FieldType), x ≤ 65536 → componentBytes ty = 4 → ¬ x * componentBytes ty > e.platform.maxHeapBytes := fun x ty hx h4 => by
    rw [Launch.admits_maxHeapBytes X.admits, h4]; omega
  have hmul : ∀ j, j < n.toNatClampNeg → j * k.toNatClampNeg + k.toNatClampNeg ≤ n.toNatClampNeg * k.toNatClampNeg := fun j hj => by
    have := Nat.mul_le_mul_right k.toNatClampNeg (Nat.succ_le_of_lt hj)
    rwa [Nat.succ_mul] at this
  rw [multianewarray.make]
  simp only [wp_bind', W.ite, hn, if_false, wp_pure', W.theClass, State.vm_setTop, hkA, hkindA, Option.some.injEq, exists_eq_left']
  refine W.newArray_of (k := kA) (comp := cB) (type := .array .int) (by rw [State.vm_setTop]; exact hkA) hkindA (hl _ hn6) (hb _ _ hn6 rfl) (by rw [State.heap_setTop]; omega) (by show T.slotsUsed + _ ≤ _; have := Nat.zero_le (n.toNatClampNeg * k.toNatClampNeg); omega) rfl fun acts1 => ?_
  rw [State.heap_setTop]
  have hfind : ([k].find? (· < 0)) = none := by simp [hk]
  simp only [hfind]
  rw [ite_self, wp_bind', Std.Legacy.Range.forIn_eq_forIn_range']
  have hsz : ([:n.toNatClampNeg] : Std.Legacy.Range).size = n.toNatClampNeg := by simp [Std.Legacy.Range.size]
  rw [hsz]
  refine wp_forIn_inv (fun rest s' => ∃ j, j ≤ n.toNatClampNeg ∧ rest = List.range' j (n.toNatClampNeg - j) ∧ mlt p l e R s m args below meth c locs cells slots T f cA cB n.toNatClampNeg k.toNatClampNeg j s') _ _ ⟨0, Nat.zero_le _, rfl, mlt_zero X f cA cB _ _⟩ ?_ ?_
  · rintro x rest s' d' acts' Q' ⟨j, hj, hl1, hM⟩ hnext
    have hlt : j < n.toNatClampNeg := by
      rcases Nat.lt_or_ge j n.toNatClampNeg with h | h
      · exact h
      · rw [show n.toNatClampNeg - j = 0 from by omega] at hl1; cases hl1
    rw [show n.toNatClampNeg - j = (n.toNatClampNeg - (j + 1)) + 1 from by omega, List.range'_succ] at hl1
    have hx : x = j := (List.cons.inj hl1).1
    have hrest := (List.cons.inj hl1).2
    subst hx
    have hstep := mlt_step hM hlt
    obtain ⟨S, L, hS, hL, XS, h1, h2, h3, h4, h5, h6⟩ := id hM
    have hmj := hmul x hlt
    have hsv : s'.vm = T.vm := by rw [hS, State.vm_setTop]; exact h1
    have hsh : s'.heap = S.heap := by rw [hS, State.heap_setTop]
    have hsu : s'.slotsUsed = S.slotsUsed := by rw [hS]; rfl
    simp only [wp_bind']
    rw [multianewarray.make]
    simp only [wp_bind', W.ite, hk, if_false, wp_pure', W.theClass, hsv, hkB, hkindB, Option.some.injEq, exists_eq_left']
    refine W.newArray_of (k := kB) (comp := cC) (type := .int) (by rw [hsv]; exact hkB) hkindB (hl _ hk6) (hb _ _ hk6 rfl) (by rw [hsh, h2]; omega) (by rw [hsu, h3]; omega) rfl fun acts2 => ?_
    simp only [wp_bind', W.writeLoc, wp_pure']
    have hlt0 : T.heap.size < s'.heap.size := by rw [hsh, h2]; omega
    refine ⟨_, by rw [State.heap_pushCell_of_lt _ _ hlt0, hsh]; exact h4, by simp [arrV], by rw [arrV_size]; exact hlt, ?_, hnext _ _ _ ⟨x + 1, hlt, hrest, hstep⟩⟩
    simp [State.fitsSlot, State.slotType?, arrV, hsv, hkA, hkindA, fits]
  · rintro s' d' acts' ⟨j, hj, hl1, hM⟩
    have hj2 : j = n.toNatClampNeg := by
      rcases Nat.lt_or_ge j n.toNatClampNeg with h | h
      · rw [show n.toNatClampNeg - j = (n.toNatClampNeg - (j + 1)) + 1 from by omega, List.range'_succ] at hl1; cases hl1
      · omega
    subst hj2
    simp only [wp_pure']
    exact hq _ _ _ hM
end MU
