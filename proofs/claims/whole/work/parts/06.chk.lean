/-! what an instruction of the light machine is in the class file, and that the code rows are the class files' -/
def f4 (k : Nat) (f : Fin 4 → Instr) : Option Instr := if h : k < 4 then some (f ⟨k, h⟩) else none
def toCond (j : Nat) : Option ClassFile.Cond := match j with
  | 0 => some .eq
  | 1 => some .ne
  | 2 => some .lt
  | 3 => some .ge
  | 4 => some .gt
  | 5 => some .le
  | _ => none
def toI (pc len : Nat) (q : Li) : Option Instr :=
  let j := q.2.1
  let k := q.2.2.1
  let z := q.2.2.2.1
  let ts := q.2.2.2.2
  match q.1 with
  | 0 => (match j, len with
    | 0, 1 => some (.iconst z)
    | 1, 2 => some (.bipush z)
    | 2, 3 => some (.sipush z)
    | 3, 1 => if h : k < 2 then some (.lconst ⟨k, h⟩) else none
    | 4, 1 => some .aconst_null
    | _, _ => none)
  | 1 => (match j, z, len with
    | 0, 0, 2 => some (.iload k)
    | 0, 1, 1 => f4 k .iload_n
    | 1, 0, 2 => some (.lload k)
    | 1, 1, 1 => f4 k .lload_n
    | 2, 0, 2 => some (.aload k)
    | 2, 1, 1 => f4 k .aload_n
    | _, _, _ => none)
  | 2 => (match j, z, len with
    | 0, 0, 2 => some (.istore k)
    | 0, 1, 1 => f4 k .istore_n
    | 1, 0, 2 => some (.lstore k)
    | 1, 1, 1 => f4 k .lstore_n
    | 2, 0, 2 => some (.astore k)
    | 2, 1, 1 => f4 k .astore_n
    | _, _, _ => none)
  | 3 => (match len with
    | 3 => some (.iinc k z)
    | _ => none)
  | 4 => (match j, len with
    | 0, 1 => some .iadd
    | 1, 1 => some .isub
    | 2, 1 => some .imul
    | 3, 1 => some .idiv
    | 4, 1 => some .irem
    | 5, 1 => some .ishl
    | 6, 1 => some .ishr
    | 7, 1 => some .iushr
    | 8, 1 => some .iand
    | 9, 1 => some .ior
    | 10, 1 => some .ixor
    | _, _ => none)
  | 5 => (match j, len with
    | 0, 1 => some .ladd
    | 1, 1 => some .lsub
    | 2, 1 => some .lmul
    | 3, 1 => some .ldiv
    | 4, 1 => some .lrem
    | 5, 1 => some .lcmp
    | _, _ => none)
  | 6 => (match j, len with
    | 0, 1 => some .ineg
    | 1, 1 => some .i2l
    | 2, 1 => some .l2i
    | 3, 1 => some .i2b
    | 4, 1 => some .i2c
    | _, _ => none)
  | 7 => (match j, len with
    | 0, 1 => some .dup
    | 1, 1 => some .pop
    | 2, 1 => some .dup2
    | _, _ => none)
  | 8 => (match len with
    | 3 => (toCond j).map fun c => .ifCond c ((k : Int) - pc)
    | _ => none)
  | 9 => (match len with
    | 3 => (toCond j).map fun c => .if_icmp c ((k : Int) - pc)
    | _ => none)
  | 10 => (match len with
    | 3 => some (.goto ((k : Int) - pc))
    | _ => none)
  | 11 => (match j, len with
    | 0, 3 => some (.ifnull ((k : Int) - pc))
    | 1, 3 => some (.ifnonnull ((k : Int) - pc))
    | _, _ => none)
  | 12 => some (.tableswitch ((k : Int) - pc) z (z + ts.length - 1) (ts.map fun (t : Nat) => (Int.ofNat t) - pc).toArray)
  | 13 => (match z, len with
    | 0, 2 => some (.ldc k)
    | 1, 3 => some (.ldc_w k)
    | 2, 3 => some (.ldc2_w k)
    | 3, 3 => some (.getstatic k)
    | _, _ => none)
  | 14 => (match len with
    | 3 => some (.getfield k)
    | _ => none)
  | 15 => (match len with
    | 3 => some (.putfield k)
    | _ => none)
  | 16 => (match j, len with
    | 0, 1 => some .iaload
    | 1, 1 => some .laload
    | 2, 1 => some .aaload
    | 3, 1 => some .baload
    | _, _ => none)
  | 17 => (match j, len with
    | 0, 1 => some .iastore
    | 1, 1 => some .lastore
    | 2, 1 => some .aastore
    | 3, 1 => some .bastore
    | _, _ => none)
  | 18 => (match len with
    | 1 => some .arraylength
    | _ => none)
  | 19 => (match k, len with
    | 4, 2 => some (.newarray .boolean)
    | 8, 2 => some (.newarray .byte)
    | 10, 2 => some (.newarray .int)
    | 11, 2 => some (.newarray .long)
    | _, _ => none)
  | 20 => (match len with
    | 3 => some (.new k)
    | _ => none)
  | 21 => (match len with
    | 3 => some (.anewarray k)
    | _ => none)
  | 22 => (match z, len with
    | 2, 4 => some (.multianewarray k 2)
    | _, _ => none)
  | 23 => (match j, len with
    | 0, 3 => some (.invokevirtual k)
    | 1, 3 => some (.invokespecial k)
    | 2, 3 => some (.invokestatic k)
    | _, _ => none)
  | 24 => (match j, len with
    | 0, 1 => some .ireturn
    | 1, 1 => some .lreturn
    | 2, 1 => some .areturn
    | 3, 1 => some .return_
    | _, _ => none)
  | 25 => (match len with
    | 1 => some .athrow
    | _ => none)
  | 26 => (match len with
    | 3 => some (.checkcast k)
    | _ => none)
  | _ => none
def okI (b : ByteArray) (q : Nat × Li × Nat) : Bool := match toI q.1 q.2.2 q.2.1 with
  | some i => decide (decode b q.1 = .ok (i, q.2.2))
  | none => false
def okC (b : ByteArray) (c : Lc) : Bool := c.all fun ch => ch.2.all (okI b)
theorem lc_row_mem {pc : Nat} {x : Li × Nat} : ∀ {r : List (Nat × Li × Nat)}, lc_row pc r = some x → (pc, x) ∈ r
  | [], h => by cases h
  | q :: r, h => by
    rw [lc_row] at h
    cases hb : Nat.beq q.1 pc with
    | true =>
      rw [hb] at h
      have e : q.1 = pc := Nat.eq_of_beq_eq_true hb
      have e2 : q.2 = x := Option.some.inj h
      rw [← e, ← e2]
      exact List.mem_cons_self
    | false =>
      rw [hb] at h
      exact List.mem_cons_of_mem _ (lc_row_mem h)
theorem lc_at_ok {b : ByteArray} {pc : Nat} {q : Li} {len : Nat} : ∀ {c : Lc}, okC b c = true → lc_at pc c = some (q, len) → ∃ i, toI pc len q = some i ∧ decode b pc = .ok (i, len)
  | [], _, h => by cases h
  | ch :: r, ok, h => by
    simp only [okC, List.all_cons, Bool.and_eq_true] at ok
    rw [lc_at] at h
    cases hb : Nat.blt pc ch.1 with
    | true =>
      rw [hb] at h
      have hm := lc_row_mem h
      have := List.all_eq_true.mp ok.1 _ hm
      simp only [okI] at this
      split at this
      · rename_i i hi
        exact ⟨i, hi, of_decide_eq_true this⟩
      · cases this
    | false =>
      rw [hb] at h
      exact lc_at_ok (c := r) (by simpa only [okC] using ok.2) h
