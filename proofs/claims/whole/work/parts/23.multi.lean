/-! rows of int rows -/
section MU
variable {p : Program} {l : Launch} {e : Env} {R : Room} {s : State} {m : MethodId} {args : Array Value} {below : List Frame} {meth : Method} {c : Code} {H : Heap} {locs : List Loc} {cells slots : Nat} {Q : State → Prop}
variable {cc : ByteArray} {pc len nL : Nat} {re : Array Slot} {G : LG} {ls st : List Value} {t t0 : Lm} {i : Instr} {own : Nat}
/-- the state with j inner rows -/
def maS (T : State) (cA cB : ClassId) (n k : Nat) : Nat → State
  | 0 => T.pushCell (arrV cA n (fun _ => .null))
  | j + 1 => ((maS T cA cB n k j).pushCell (arrV cB k (fun _ => .int 0))).setCell T.heap.size ((arrV cA n (fun x => if x < j then .ref (T.heap.size + 1 + x) else .null)).setSlot j (.ref (T.heap.size + 1 + j)))
/-- after j inner rows: the state, told by what it holds -/
def mlt (p : Program) (l : Launch) (e : Env) (R : Room) (s : State) (m : MethodId) (args : Array Value) (below : List Frame) (meth : Method) (c : Code) (locs : List Loc) (cells slots : Nat) (T : State) (f : JFrame) (cA cB : ClassId) (n k j : Nat) (s' : State) : Prop :=
  ∃ (S : State) (locs' : List Loc), S = maS T cA cB n k j ∧ s' = S.setTop f ∧ (∀ q ∈ locs', q ∈ locs ∨ q.base = T.heap.size) ∧ Stand p l e R s m args below meth c S locs' (cells + 1 + j) (slots + n + j * k) ∧ S.vm = T.vm ∧ S.heap.size = T.heap.size + 1 + j ∧ S.slotsUsed = T.slotsUsed + n + j * k ∧
    S.heap[T.heap.size]? = some (arrV cA n (fun x => if x < j then .ref (T.heap.size + 1 + x) else .null)) ∧ (∀ q, q < T.heap.size → S.heap[q]? = T.heap[q]?) ∧ ∀ x, x < j → S.heap[T.heap.size + 1 + x]? = some (arrV cB k (fun _ => .int 0))
theorem mlt_zero {T : State} (X : Stand p l e R s m args below meth c T locs cells slots) (f : JFrame) (cA cB : ClassId) (n k : Nat) : mlt p l e R s m args below meth c locs cells slots T f cA cB n k 0 ((T.setTop f).pushCell { cls := cA, slots := Array.replicate n .null }) := by
  refine ⟨T.pushCell (arrV cA n (fun _ => .null)), locs, rfl, ?_, fun q hq => Or.inl hq, ?_, rfl, ?_, ?_, ?_, fun q hq => State.heap_pushCell_of_lt _ _ hq, fun x hx => absurd hx (Nat.not_lt_zero _)⟩
  · rw [State.pushCell_setTop, show ({ cls := cA, slots := Array.replicate n .null } : Cell) = _ from arrV_new cA n .null]
  · have h := X.pushed (arrV cA n (fun _ => .null))
    rw [arrV_size] at h
    simpa using h
  · show (T.heap.push _).size = _
    rw [Array.size_push]
  · show T.slotsUsed + (arrV cA n (fun _ => .null)).slots.size = _
    rw [arrV_size]; omega
  · rw [State.heap_pushCell_size]
    congr 1
theorem mlt_step {T : State} {f : JFrame} {cA cB : ClassId} {n k j : Nat} {s' : State} (h : mlt p l e R s m args below meth c locs cells slots T f cA cB n k j s') (hj : j < n) :
    mlt p l e R s m args below meth c locs cells slots T f cA cB n k (j + 1) ((s'.pushCell { cls := cB, slots := Array.replicate k (.int 0) }).setCell T.heap.size ((arrV cA n (fun x => if x < j then .ref (T.heap.size + 1 + x) else .null)).setSlot j (.ref s'.heap.size))) := by
  obtain ⟨S, L, hS, rfl, hL, X, h1, h2, h3, h4, h5, h6⟩ := h
  have hsz : (S.setTop f).heap.size = T.heap.size + 1 + j := h2
  have hlt : T.heap.size < S.heap.size := by rw [h2]; omega
  have hpc : (S.pushCell (arrV cB k (fun _ => .int 0))).heap[T.heap.size]? = some (arrV cA n (fun x => if x < j then .ref (T.heap.size + 1 + x) else .null)) := by rw [State.heap_pushCell_of_lt _ _ hlt]; exact h4
  have X2 := (X.pushed (arrV cB k (fun _ => .int 0))).stored hpc j (.ref (T.heap.size + 1 + j))
  rw [arrV_size] at X2
  refine ⟨(S.pushCell (arrV cB k (fun _ => .int 0))).setCell T.heap.size ((arrV cA n (fun x => if x < j then .ref (T.heap.size + 1 + x) else .null)).setSlot j (.ref (T.heap.size + 1 + j))), L ++ [⟨T.heap.size, j⟩], by rw [hS]; rfl, ?_, ?_, ?_, ?_, ?_, ?_, ?_, ?_, ?_⟩
  rotate_left 2
  · rw [show cells + 1 + (j + 1) = cells + 1 + j + 1 from by omega, show slots + n + (j + 1) * k = slots + n + j * k + k from by rw [Nat.succ_mul]; omega]
    exact X2
  · exact h1
  · show (((S.pushCell (arrV cB k (fun _ => .int 0))).heap).setIfInBounds _ _).size = _
    rw [Array.size_setIfInBounds]
    show (S.heap.push _).size = _
    rw [Array.size_push, h2]; omega
  · show S.slotsUsed + (arrV cB k (fun _ => .int 0)).slots.size = _
    rw [arrV_size, h3, Nat.succ_mul]; omega
  · rw [State.heap_setCell_self hpc, arrV_store]
    congr 1
    unfold arrV
    congr 2
    funext x
    unfold updV
    dsimp only
    by_cases e1 : x.val = j
    · rw [if_pos e1, if_pos (by omega), e1]
    · rw [if_neg e1]
      by_cases e2 : x.val < j
      · rw [if_pos e2, if_pos (by omega)]
      · rw [if_neg e2, if_neg (by omega)]
  · intro q hq
    rw [State.heap_setCell_other (Nat.ne_of_gt hq), State.heap_pushCell_of_lt _ _ (Nat.lt_trans hq hlt)]
    exact h5 q hq
  · intro x hx
    rw [State.heap_setCell_other (show T.heap.size ≠ T.heap.size + 1 + x from by omega)]
    by_cases e1 : x < j
    · rw [State.heap_pushCell_of_lt _ _ (show T.heap.size + 1 + x < S.heap.size from by rw [h2]; omega)]
      exact h6 x e1
    · have e2 : x = j := by omega
      subst e2
      rw [← h2]
      exact State.heap_pushCell_size _ _
  · show ((S.setTop f).pushCell _).setCell _ _ = _
    rw [State.pushCell_setTop, State.setCell_setTop, hsz, show ({ cls := cB, slots := Array.replicate k (.int 0) } : Cell) = _ from arrV_new cB k (.int 0)]
  · intro q hq
    rcases List.mem_append.mp hq with h | h
    · exact hL q h
    · right
      simp only [List.mem_cons, List.not_mem_nil, or_false] at h
      rw [h]
/-- that there is one -/
theorem mlt_all {T : State} (X : Stand p l e R s m args below meth c T locs cells slots) (f : JFrame) (cA cB : ClassId) (n k : Nat) : ∀ j, j ≤ n → ∃ s', mlt p l e R s m args below meth c locs cells slots T f cA cB n k j s'
  | 0, _ => ⟨_, mlt_zero X f cA cB n k⟩
  | j + 1, hj => by
    obtain ⟨s', h⟩ := mlt_all X f cA cB n k j (by omega)
    exact ⟨_, mlt_step h hj⟩
theorem mlt_make {T : State} (X : Stand p l e R s m args below meth c T locs cells slots) (f : JFrame) {E : CtlPost} {d : Bool} {acts : List Action} {cA cB cC : ClassId} {kA kB : Class} {n k : Int32} (hkA : T.vm.classes[cA]? = some kA) (hkindA : kA.kind = .array cB (.array .int)) (hkB : T.vm.classes[cB]? = some kB) (hkindB : kB.kind = .array cC .int) (hn : ¬ n < 0) (hk : ¬ k < 0) (hn6 : n.toNatClampNeg ≤ 65536) (hk6 : k.toNatClampNeg ≤ 65536)
    (hcells : cells + (1 + n.toNatClampNeg) ≤ R.cells) (hslots : slots + (n.toNatClampNeg + n.toNatClampNeg * k.toNatClampNeg) ≤ R.slots) {Q : Addr → Jvm.Pre}
    (hq : ∀ d' acts' s', mlt p l e R s m args below meth c locs cells slots T f cA cB n.toNatClampNeg k.toNatClampNeg n.toNatClampNeg s' → Q T.heap.size d' acts' s') : wp (multianewarray.make cA [n, k]) Q E e d acts (T.setTop f) := by
  obtain ⟨hr1, hr2⟩ := X.roomAbove hcells hslots
  have hl : ∀ x : Nat, x ≤ 65536 → ¬ x > e.platform.arrayLengthLimit := fun x hx => by rw [Launch.admits_arrayLengthLimit X.admits]; omega
  have hb : ∀ (x : Nat) (ty : FieldType), x ≤ 65536 → componentBytes ty = 4 → ¬ x * componentBytes ty > e.platform.maxHeapBytes := fun x ty hx h4 => by
    rw [Launch.admits_maxHeapBytes X.admits, h4]; omega
  have hmul : ∀ j, j < n.toNatClampNeg → j * k.toNatClampNeg + k.toNatClampNeg ≤ n.toNatClampNeg * k.toNatClampNeg := fun j hj => by
    have := Nat.mul_le_mul_right k.toNatClampNeg (Nat.succ_le_of_lt hj)
    rwa [Nat.succ_mul] at this
  rw [multianewarray.make]
  simp only [wp_bind', W.ite, hn, if_false, wp_pure', W.theClass, State.vm_setTop, hkA, hkindA, Option.some.injEq, exists_eq_left']
  refine W.newArray_of (k := kA) (comp := cB) (type := .array .int) (by rw [State.vm_setTop]; exact hkA) hkindA (hl _ hn6) (hb _ _ hn6 rfl) (by rw [State.heap_setTop]; omega) (by show T.slotsUsed + _ ≤ _; have := Nat.zero_le (n.toNatClampNeg * k.toNatClampNeg); omega) rfl fun acts1 => ?_
  rw [State.heap_setTop]
  have hfind : ([k].find? (· < 0)) = none := by simp [hk]
  simp only [hfind]
  rw [ite_self, wp_bind', Std.Legacy.Range.forIn_eq_forIn_range']
  have hsz : ([:n.toNatClampNeg] : Std.Legacy.Range).size = n.toNatClampNeg := by simp [Std.Legacy.Range.size]
  rw [hsz]
  refine wp_forIn_inv (fun rest s' => ∃ j, j ≤ n.toNatClampNeg ∧ rest = List.range' j (n.toNatClampNeg - j) ∧ mlt p l e R s m args below meth c locs cells slots T f cA cB n.toNatClampNeg k.toNatClampNeg j s') _ _ ⟨0, Nat.zero_le _, rfl, mlt_zero X f cA cB _ _⟩ ?_ ?_
  · rintro x rest s' d' acts' Q' ⟨j, hj, hl1, hM⟩ hnext
    have hlt : j < n.toNatClampNeg := by
      rcases Nat.lt_or_ge j n.toNatClampNeg with h | h
      · exact h
      · rw [show n.toNatClampNeg - j = 0 from by omega] at hl1; cases hl1
    rw [show n.toNatClampNeg - j = (n.toNatClampNeg - (j + 1)) + 1 from by omega, List.range'_succ] at hl1
    have hx : x = j := (List.cons.inj hl1).1
    have hrest := (List.cons.inj hl1).2
    subst hx
    have hstep := mlt_step hM hlt
    obtain ⟨S, L, -, hS, hL, XS, h1, h2, h3, h4, h5, h6⟩ := id hM
    have hmj := hmul x hlt
    have hsv : s'.vm = T.vm := by rw [hS, State.vm_setTop]; exact h1
    have hsh : s'.heap = S.heap := by rw [hS, State.heap_setTop]
    have hsu : s'.slotsUsed = S.slotsUsed := by rw [hS]; rfl
    simp only [wp_bind']
    rw [multianewarray.make]
    simp only [wp_bind', W.ite, hk, if_false, wp_pure', W.theClass, hsv, hkB, hkindB, Option.some.injEq, exists_eq_left']
    refine W.newArray_of (k := kB) (comp := cC) (type := .int) (by rw [hsv]; exact hkB) hkindB (hl _ hk6) (hb _ _ hk6 rfl) (by rw [hsh, h2]; omega) (by rw [hsu, h3]; omega) rfl fun acts2 => ?_
    simp only [wp_bind', W.writeLoc, wp_pure']
    have hlt0 : T.heap.size < s'.heap.size := by rw [hsh, h2]; omega
    refine ⟨_, by rw [State.heap_pushCell_of_lt _ _ hlt0, hsh]; exact h4, by simp [arrV], by rw [arrV_size]; exact hlt, ?_, hnext _ _ _ ⟨x + 1, hlt, hrest, hstep⟩⟩
    simp [State.fitsSlot, State.slotType?, arrV, hsv, hkA, hkindA, fits]
  · rintro s' d' acts' ⟨j, hj, hl1, hM⟩
    have hj2 : j = n.toNatClampNeg := by
      rcases Nat.lt_or_ge j n.toNatClampNeg with h | h
      · rw [show n.toNatClampNeg - j = (n.toNatClampNeg - (j + 1)) + 1 from by omega, List.range'_succ] at hl1; cases hl1
      · omega
    subst hj2
    simp only [wp_pure']
    exact hq _ _ _ hM
end MU
section MV
variable {p : Program} {l : Launch} {e : Env} {R : Room} {s : State} {m : MethodId} {args : Array Value} {below : List Frame} {meth : Method} {c : Code} {H : Heap} {locs : List Loc} {cells slots : Nat} {Q : State → Prop}
variable {cc : ByteArray} {pc len nL : Nat} {re : Array Slot} {G : LG} {ls st : List Value} {t t0 : Lm} {i : Instr} {own : Nat}
theorem arrV_congr {cI : ClassId} {N : Nat} {f g : Nat → Value} (h : ∀ j, j < N → f j = g j) : arrV cI N f = arrV cI N g := by
  unfold arrV
  congr 2
  funext x
  exact h x.val x.isLt
theorem Rep.multi (hA : Ad G) (hR : Rep G t H) {n k : Nat} {H' : Heap} (hfit : lmN t + 1 + n ≤ lmCells) (hfS : lmS t + (n + n * k) ≤ lmSlots) (h2 : H'.size = H.size + 1 + n) (h4 : H'[H.size]? = some (arrV (gA G 55) n (fun x => if x < n then .ref (H.size + 1 + x) else .null))) (h5 : ∀ q, q < H.size → H'[q]? = H[q]?) (h6 : ∀ x, x < n → H'[H.size + 1 + x]? = some (arrV (gA G 50) k (fun _ => .int 0))) : Rep G (lmNew2 t n k) H' := by
  obtain ⟨r1, r2, r3, r4, r5, r6, r7⟩ := id hR
  have hnx := hR.next hA
  have hB : lmN t + 1 + n < lmB := Nat.lt_of_le_of_lt hfit lmCells_lt
  have hgd : ∀ a, a < lmN t + 1 + n → gD G a = (gH G).size + a := fun a ha => hA.1 a (by omega)
  refine ⟨by rw [h2, r1]; show _ = (gH G).size + (lmN t + 1 + n); omega, hfit, hfS, fun a ha => ?_, fun q hq => by rw [h5 q (by rw [r1]; omega)]; exact r5 q hq, fun a ha hb => ?_, fun a ha => ?_⟩
  · have ha' : a < lmN t + 1 + n := ha
    rcases Nat.lt_trichotomy a (lmN t) with q | q | q
    · refine (r4 a q).congr ?_ ?_ ?_ ?_ (h5 _ (by rw [hgd a ha', r1]; omega))
      · show (if a = lmN t then (55, n) else if lmN t < a ∧ a ≤ lmN t + n then (50, k) else lmK t a) = _
        rw [if_neg (by omega), if_neg (by omega)]
      · show (if lmN t ≤ a ∧ a ≤ lmN t + n then fun _ => 0 else lmI t a) = _
        rw [if_neg (by omega)]
      · show (if lmN t ≤ a ∧ a ≤ lmN t + n then fun _ => 0 else lmL t a) = _
        rw [if_neg (by omega)]
      · show (if a = lmN t then fun j => if j < n then some (lmN t + 1 + j) else none else if lmN t < a ∧ a ≤ lmN t + n then fun _ => none else lmR t a) = _
        rw [if_neg (by omega), if_neg (by omega)]
    · subst q
      have hk : lmK (lmNew2 t n k) (lmN t) = (55, n) := by
        show (if lmN t = lmN t then (55, n) else _) = _
        rw [if_pos rfl]
      have hr : lmR (lmNew2 t n k) (lmN t) = fun j => if j < n then some (lmN t + 1 + j) else none := by
        show (if lmN t = lmN t then _ else _) = _
        rw [if_pos rfl]
      unfold lCell
      rw [hk, if_neg (by show ¬ (55 : Nat) < 13; omega), if_neg (by show ¬ (55 : Nat) < 50; omega), hnx, h4]
      congr 1
      refine arrV_congr fun j hj => ?_
      show (if j < n then _ else _) = lV G (lRef (lmR (lmNew2 t n k) (lmN t) j))
      rw [hr]
      simp only [if_pos hj]
      show _ = Value.ref (gD G (lmN t + 1 + j))
      rw [hgd _ (by show lmN t + 1 + j < lmN t + 1 + n; omega), r1, show (gH G).size + lmN t + 1 + j = (gH G).size + (lmN t + 1 + j) from by omega]
    · have hk : lmK (lmNew2 t n k) a = (50, k) := by
        show (if a = lmN t then (55, n) else if lmN t < a ∧ a ≤ lmN t + n then (50, k) else lmK t a) = _
        rw [if_neg (by omega), if_pos (by omega)]
      have hi : lmI (lmNew2 t n k) a = fun _ => 0 := by
        show (if lmN t ≤ a ∧ a ≤ lmN t + n then fun _ => 0 else lmI t a) = _
        rw [if_pos (by omega)]
      unfold lCell
      rw [hk, if_neg (by show ¬ (50 : Nat) < 13; omega), if_neg (by show ¬ (50 : Nat) < 50; omega)]
      have e1 : gD G a = H.size + 1 + (a - lmN t - 1) := by rw [hgd a ha', r1]; omega
      rw [e1, h6 _ (by omega)]
      congr 1
      refine arrV_congr fun j hj => ?_
      show _ = Value.int (lmI (lmNew2 t n k) a j)
      rw [hi]
  · have ha' : lmN t + 1 + n ≤ a := ha
    show (if a = lmN t then (55, n) else if lmN t < a ∧ a ≤ lmN t + n then (50, k) else lmK t a) = _
    rw [if_neg (by omega), if_neg (by omega)]
    exact r6 a (by omega) hb
  · obtain ⟨q1, q2, q3, q4⟩ := r7 a ha
    refine ⟨?_, ?_, ?_, ?_⟩
    · rw [← q1]
      show (if a = lmN t then (55, n) else if lmN t < a ∧ a ≤ lmN t + n then (50, k) else lmK t a) = _
      rw [if_neg (by omega), if_neg (by omega)]
    · rw [← q2]
      show (if lmN t ≤ a ∧ a ≤ lmN t + n then fun _ => 0 else lmI t a) = _
      rw [if_neg (by omega)]
    · rw [← q3]
      show (if lmN t ≤ a ∧ a ≤ lmN t + n then fun _ => 0 else lmL t a) = _
      rw [if_neg (by omega)]
    · rw [← q4]
      show (if a = lmN t then fun j => if j < n then some (lmN t + 1 + j) else none else if lmN t < a ∧ a ≤ lmN t + n then fun _ => none else lmR t a) = _
      rw [if_neg (by omega), if_neg (by omega)]
theorem sm_multi (hA : Ad G) (hx : p.tables.exec = Jvm.exec) (hb : c.code = cc) (hown : s.vm.findClass (cN own) = some m.cls) (hts : ∀ w ∈ lw_tb2, w.before args s = true) (hK : Kn G s) (hR : Rep G t H) {j k x y : Nat} {z : Int} {ts : List Nat} {n o : Int32} (hi : toI pc len (22, j, k, z, ts) = some i) (hd : decode cc pc = .ok (i, len)) (hq : lk own k = some (62, x, y)) (hn : ¬ n < 0) (ho : ¬ o < 0) (hn6 : n.toNatClampNeg ≤ 65536) (ho6 : o.toNatClampNeg ≤ 65536)
    (hfit : lmN t + (1 + n.toNatClampNeg) ≤ lmCells) (hfS : lmS t + (n.toNatClampNeg + n.toNatClampNeg * o.toNatClampNeg) ≤ lmSlots) (hcells : cells + (1 + n.toNatClampNeg) ≤ R.cells) (hslots : slots + (n.toNatClampNeg + n.toNatClampNeg * o.toNatClampNeg) ≤ R.slots) (hloc : ∀ q ∈ locs, (gH G).size ≤ q.base)
    (kk : ∀ (H' : Heap) (locs' : List Loc), Rep G (lmNew2 t n.toNatClampNeg o.toNatClampNeg) H' → (∀ q ∈ locs', (gH G).size ≤ q.base) → W p l e R s m args below meth c H' locs' (cells + (1 + n.toNatClampNeg)) (slots + (n.toNatClampNeg + n.toNatClampNeg * o.toNatClampNeg)) Q (F0 m (pc + len) re (.ref (gD G (lmN t)) :: st))) :
    W p l e R s m args below meth c H locs cells slots Q (F0 m pc re (.int o :: .int n :: st)) := by
  obtain ⟨-, -, w, hw, hm⟩ := lk_ok hq
  cases hw
  have hnx := hR.next hA
  rw [toI_22] at hi
  split at hi
  · cases hi
    intro T hT X
    subst hT; subst hb
    have hpl : e.platform.magicAccessors = ({} : Platform).magicAccessors := by rw [X.admits.platform]
    obtain ⟨c0, hfc0, hcl⟩ := Cond.classLink_spec hown (hts _ (tb2 hm rfl)) e.platform hpl
    have hra : s.vm.findClass "[[I" = some (gA G 55) := (hK.2.2.1 55 (by omega) (by omega)).2
    have ec : c0 = gA G 55 := Option.some.inj (hfc0.symm.trans hra)
    subst ec
    obtain ⟨hg₁, hwarm₁, hready₁⟩ := State.classEntry (e := e) X.warmed hcl
    generalize T.vm.noted m.cls k (.cls (gA G 55)) = vm₁ at hg₁ hwarm₁ hready₁
    have X₁ := X.noted hwarm₁
    obtain ⟨kA, kB, cC, hkA, hkindA, hkB, hkindB⟩ := (hK.moved (U := T.setVm vm₁) hwarm₁).2.2.2.2.2.2.2.2.2.2.2.2.2
    obtain ⟨s1, S, L, hS, -, hL, XS, h1, h2, h3, h4, h5, h6⟩ := mlt_all X₁ (F0 m pc re st) (gA G 55) (gA G 50) n.toNatClampNeg o.toNatClampNeg n.toNatClampNeg (Nat.le_refl _)
    have hrep := hR.multi hA (by omega) hfS h2 h4 h5 h6
    have XS' : Stand p l e R s m args below meth c S L (cells + (1 + n.toNatClampNeg)) (slots + (n.toNatClampNeg + n.toNatClampNeg * o.toNatClampNeg)) := by
      rw [← Nat.add_assoc, ← Nat.add_assoc]; exact XS
    obtain ⟨tg, a1, a2⟩ := kk S.heap L hrep (fun q hq' => by
      rcases hL q hq' with h | h
      · exact hloc q h
      · rw [h]; show (gH G).size ≤ T.heap.size; rw [hR.1]; omega) S rfl XS'
    refine ⟨tg, ?_, a2⟩
    rw [hnx] at a1
    jvm_step X.here [hx, hd]
    simp only [multianewarray.sem, wp_bind', W.resolveClassAt_links (State.method?_setTop (F0 m pc re (.int o :: .int n :: st)) X.here.top) hg₁]
    rw [W.popN, if_neg (by decide)]
    refine ⟨F0 m pc re (.int o :: .int n :: st), State.topJava?_setTop' (s := T.setVm vm₁) _ X.here.top, [.int n, .int o], st, rfl, rfl, ?_⟩
    simp only [List.mapM_cons, List.mapM_nil, wp_bind', wp_pure']
    have eS : ((T.setTop (F0 m pc re (.int o :: .int n :: st))).setVm vm₁).setTop (F0 m pc re st) = (T.setVm vm₁).setTop (F0 m pc re st) := by
      show ((T.setVm vm₁).setTop _).setTop _ = _
      rw [State.setTop_setTop]
    rw [eS]
    refine mlt_make (e := e) X₁ (F0 m pc re st) hkA hkindA hkB hkindB hn ho hn6 ho6 hcells hslots fun d' acts' s' hM => ?_
    obtain ⟨S', L', hS', hs', -⟩ := hM
    rw [← hS] at hS'
    subst hS'
    subst hs'
    simp only [wp_bind', W.mark, W.pushRef, State.topJava?_setTop' _ XS.here.top, Option.some.injEq, exists_eq_left', State.setTop_setTop]
    intro acts
    simp [jvm, XS.here.top]
    exact a1
  · cases hi
end MV
