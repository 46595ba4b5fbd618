/-! the law's own code rows: a small decoder for the instructions that it has, held against the machine's -/
def bt (A : ByteArray) (p : Nat) : Option Nat := if h : p < A.size then some A[p].toNat else none
theorem u1_run {A : ByteArray} {p v : Nat} (h : bt A p = some v) : (Reader.u1 : Decoder Nat).runAt A p = .ok (v, p + 1) := by
  unfold bt at h
  split at h
  · rename_i hp
    cases h
    show (if h : p < A.size then (do set (p + 1); pure A[p].toNat : Decoder Nat) else throw (HasTruncated.truncated p)) A p = _
    rw [dif_pos hp]
    rfl
  · cases h
theorem bind_run {α β : Type} {r : Decoder α} {f : α → Decoder β} {A : ByteArray} {p q : Nat} {a : α} (h : r.runAt A p = .ok (a, q)) : (r >>= f).runAt A p = (f a).runAt A q := by
  show (do let (a, s) ← r.runAt A p; (f a).runAt A s : Except DecodeError (β × Nat)) = _
  rw [h]; rfl
theorem map_run {α β : Type} {r : Decoder α} {f : α → β} {A : ByteArray} {p q : Nat} {a : α} (h : r.runAt A p = .ok (a, q)) : (f <$> r).runAt A p = .ok (f a, q) := by
  show (do let (a, s) ← r.runAt A p; Except.ok (f a, s) : Except DecodeError (β × Nat)) = _
  rw [h]; rfl
theorem u2_run {A : ByteArray} {p v w : Nat} (h : bt A p = some v) (h2 : bt A (p + 1) = some w) : (Reader.u2 : Decoder Nat).runAt A p = .ok (v * 256 + w, p + 2) := by
  unfold Reader.u2
  rw [bind_run (u1_run h), bind_run (u1_run h2)]; rfl
theorem s1_run {A : ByteArray} {p v : Nat} (h : bt A p = some v) : (Reader.s1 : Decoder Int).runAt A p = .ok (Reader.signed 8 v, p + 1) := map_run (u1_run h)
theorem s2_run {A : ByteArray} {p v w : Nat} (h : bt A p = some v) (h2 : bt A (p + 1) = some w) : (Reader.s2 : Decoder Int).runAt A p = .ok (Reader.signed 16 (v * 256 + w), p + 2) := map_run (u2_run h h2)
/-- the decoder behind its first byte -/
theorem dec_run {A : ByteArray} {pc q n : Nat} {i : Instr} (h : (Decoder.instr pc).runAt A pc = .ok (i, q)) (hq : q = pc + n) : decode A pc = .ok (i, n) := by
  unfold decode
  rw [h]
  show (Except.ok (i, q - pc) : Except DecodeError (Instr × Nat)) = _
  rw [hq, Nat.add_sub_cancel_left]
def dm (b0 b1 b2 : Nat) : Option (Instr × Nat) := match b0 with
  | 3 => some (.iconst 0, 1)
  | 4 => some (.iconst 1, 1)
  | 5 => some (.iconst 2, 1)
  | 6 => some (.iconst 3, 1)
  | 7 => some (.iconst 4, 1)
  | 8 => some (.iconst 5, 1)
  | 9 => some (.lconst 0, 1)
  | 10 => some (.lconst 1, 1)
  | 16 => some (.bipush (Reader.signed 8 b1), 2)
  | 21 => some (.iload b1, 2)
  | 42 => some (.aload_n 0, 1)
  | 43 => some (.aload_n 1, 1)
  | 44 => some (.aload_n 2, 1)
  | 45 => some (.aload_n 3, 1)
  | 46 => some (.iaload, 1)
  | 47 => some (.laload, 1)
  | 54 => some (.istore b1, 2)
  | 76 => some (.astore_n 1, 1)
  | 77 => some (.astore_n 2, 1)
  | 78 => some (.astore_n 3, 1)
  | 89 => some (.dup, 1)
  | 96 => some (.iadd, 1)
  | 100 => some (.isub, 1)
  | 126 => some (.iand, 1)
  | 132 => some (.iinc b1 (Reader.signed 8 b2), 3)
  | 133 => some (.i2l, 1)
  | 148 => some (.lcmp, 1)
  | 153 => some (Instr.ifCond .eq (Reader.signed 16 (b1 * 256 + b2)), 3)
  | 154 => some (Instr.ifCond .ne (Reader.signed 16 (b1 * 256 + b2)), 3)
  | 159 => some (Instr.if_icmp .eq (Reader.signed 16 (b1 * 256 + b2)), 3)
  | 163 => some (Instr.if_icmp .gt (Reader.signed 16 (b1 * 256 + b2)), 3)
  | 167 => some (Instr.goto (Reader.signed 16 (b1 * 256 + b2)), 3)
  | 172 => some (.ireturn, 1)
  | 182 => some (.invokevirtual (b1 * 256 + b2), 3)
  | 183 => some (.invokespecial (b1 * 256 + b2), 3)
  | 184 => some (.invokestatic (b1 * 256 + b2), 3)
  | 187 => some (.new (b1 * 256 + b2), 3)
  | 188 => if b1 = 11 then some (.newarray .long, 2) else none
  | 190 => some (.arraylength, 1)
  | _ => none
theorem dm_ok {A : ByteArray} {pc b0 b1 b2 n : Nat} {i : Instr} (h : dm b0 b1 b2 = some (i, n)) (h0 : bt A pc = some b0) (h1 : 2 ≤ n → bt A (pc + 1) = some b1) (h2 : 3 ≤ n → bt A (pc + 2) = some b2) : decode A pc = .ok (i, n) := by
  unfold dm at h
  split at h
  · cases h
    refine dec_run (q := pc + 1) ?_ rfl
    unfold Decoder.instr
    rw [bind_run (u1_run h0)]
    rfl
  · cases h
    refine dec_run (q := pc + 1) ?_ rfl
    unfold Decoder.instr
    rw [bind_run (u1_run h0)]
    rfl
  · cases h
    refine dec_run (q := pc + 1) ?_ rfl
    unfold Decoder.instr
    rw [bind_run (u1_run h0)]
    rfl
  · cases h
    refine dec_run (q := pc + 1) ?_ rfl
    unfold Decoder.instr
    rw [bind_run (u1_run h0)]
    rfl
  · cases h
    refine dec_run (q := pc + 1) ?_ rfl
    unfold Decoder.instr
    rw [bind_run (u1_run h0)]
    rfl
  · cases h
    refine dec_run (q := pc + 1) ?_ rfl
    unfold Decoder.instr
    rw [bind_run (u1_run h0)]
    rfl
  · cases h
    refine dec_run (q := pc + 1) ?_ rfl
    unfold Decoder.instr
    rw [bind_run (u1_run h0)]
    rfl
  · cases h
    refine dec_run (q := pc + 1) ?_ rfl
    unfold Decoder.instr
    rw [bind_run (u1_run h0)]
    rfl
  · cases h
    refine dec_run (q := pc + 1 + 1) ?_ rfl
    unfold Decoder.instr
    rw [bind_run (u1_run h0)]
    show (Reader.s1 >>= fun x => pure (Instr.bipush x) : Decoder Instr).runAt A (pc + 1) = _
    rw [bind_run (s1_run (h1 (by omega)))]
    rfl
  · cases h
    refine dec_run (q := pc + 1 + 1) ?_ rfl
    unfold Decoder.instr
    rw [bind_run (u1_run h0)]
    show (Reader.u1 >>= fun x => pure (Instr.iload x) : Decoder Instr).runAt A (pc + 1) = _
    rw [bind_run (u1_run (h1 (by omega)))]
    rfl
  · cases h
    refine dec_run (q := pc + 1) ?_ rfl
    unfold Decoder.instr
    rw [bind_run (u1_run h0)]
    rfl
  · cases h
    refine dec_run (q := pc + 1) ?_ rfl
    unfold Decoder.instr
    rw [bind_run (u1_run h0)]
    rfl
  · cases h
    refine dec_run (q := pc + 1) ?_ rfl
    unfold Decoder.instr
    rw [bind_run (u1_run h0)]
    rfl
  · cases h
    refine dec_run (q := pc + 1) ?_ rfl
    unfold Decoder.instr
    rw [bind_run (u1_run h0)]
    rfl
  · cases h
    refine dec_run (q := pc + 1) ?_ rfl
    unfold Decoder.instr
    rw [bind_run (u1_run h0)]
    rfl
  · cases h
    refine dec_run (q := pc + 1) ?_ rfl
    unfold Decoder.instr
    rw [bind_run (u1_run h0)]
    rfl
  · cases h
    refine dec_run (q := pc + 1 + 1) ?_ rfl
    unfold Decoder.instr
    rw [bind_run (u1_run h0)]
    show (Reader.u1 >>= fun x => pure (Instr.istore x) : Decoder Instr).runAt A (pc + 1) = _
    rw [bind_run (u1_run (h1 (by omega)))]
    rfl
  · cases h
    refine dec_run (q := pc + 1) ?_ rfl
    unfold Decoder.instr
    rw [bind_run (u1_run h0)]
    rfl
  · cases h
    refine dec_run (q := pc + 1) ?_ rfl
    unfold Decoder.instr
    rw [bind_run (u1_run h0)]
    rfl
  · cases h
    refine dec_run (q := pc + 1) ?_ rfl
    unfold Decoder.instr
    rw [bind_run (u1_run h0)]
    rfl
  · cases h
    refine dec_run (q := pc + 1) ?_ rfl
    unfold Decoder.instr
    rw [bind_run (u1_run h0)]
    rfl
  · cases h
    refine dec_run (q := pc + 1) ?_ rfl
    unfold Decoder.instr
    rw [bind_run (u1_run h0)]
    rfl
  · cases h
    refine dec_run (q := pc + 1) ?_ rfl
    unfold Decoder.instr
    rw [bind_run (u1_run h0)]
    rfl
  · cases h
    refine dec_run (q := pc + 1) ?_ rfl
    unfold Decoder.instr
    rw [bind_run (u1_run h0)]
    rfl
  · cases h
    refine dec_run (q := pc + 1 + 1 + 1) ?_ rfl
    unfold Decoder.instr
    rw [bind_run (u1_run h0)]
    show (Reader.u1 >>= fun x => Reader.s1 >>= fun y => pure (Instr.iinc x y) : Decoder Instr).runAt A (pc + 1) = _
    rw [bind_run (u1_run (h1 (by omega))), bind_run (s1_run (h2 (by omega)))]
    rfl
  · cases h
    refine dec_run (q := pc + 1) ?_ rfl
    unfold Decoder.instr
    rw [bind_run (u1_run h0)]
    rfl
  · cases h
    refine dec_run (q := pc + 1) ?_ rfl
    unfold Decoder.instr
    rw [bind_run (u1_run h0)]
    rfl
  · cases h
    refine dec_run (q := pc + 1 + 2) ?_ rfl
    unfold Decoder.instr
    rw [bind_run (u1_run h0)]
    show (Reader.s2 >>= fun x => pure (Instr.ifCond .eq x) : Decoder Instr).runAt A (pc + 1) = _
    rw [bind_run (s2_run (h1 (by omega)) (h2 (by omega)))]
    rfl
  · cases h
    refine dec_run (q := pc + 1 + 2) ?_ rfl
    unfold Decoder.instr
    rw [bind_run (u1_run h0)]
    show (Reader.s2 >>= fun x => pure (Instr.ifCond .ne x) : Decoder Instr).runAt A (pc + 1) = _
    rw [bind_run (s2_run (h1 (by omega)) (h2 (by omega)))]
    rfl
  · cases h
    refine dec_run (q := pc + 1 + 2) ?_ rfl
    unfold Decoder.instr
    rw [bind_run (u1_run h0)]
    show (Reader.s2 >>= fun x => pure (Instr.if_icmp .eq x) : Decoder Instr).runAt A (pc + 1) = _
    rw [bind_run (s2_run (h1 (by omega)) (h2 (by omega)))]
    rfl
  · cases h
    refine dec_run (q := pc + 1 + 2) ?_ rfl
    unfold Decoder.instr
    rw [bind_run (u1_run h0)]
    show (Reader.s2 >>= fun x => pure (Instr.if_icmp .gt x) : Decoder Instr).runAt A (pc + 1) = _
    rw [bind_run (s2_run (h1 (by omega)) (h2 (by omega)))]
    rfl
  · cases h
    refine dec_run (q := pc + 1 + 2) ?_ rfl
    unfold Decoder.instr
    rw [bind_run (u1_run h0)]
    show (Reader.s2 >>= fun x => pure (Instr.goto x) : Decoder Instr).runAt A (pc + 1) = _
    rw [bind_run (s2_run (h1 (by omega)) (h2 (by omega)))]
    rfl
  · cases h
    refine dec_run (q := pc + 1) ?_ rfl
    unfold Decoder.instr
    rw [bind_run (u1_run h0)]
    rfl
  · cases h
    refine dec_run (q := pc + 1 + 2) ?_ rfl
    unfold Decoder.instr
    rw [bind_run (u1_run h0)]
    show (Reader.u2 >>= fun x => pure (Instr.invokevirtual x) : Decoder Instr).runAt A (pc + 1) = _
    rw [bind_run (u2_run (h1 (by omega)) (h2 (by omega)))]
    rfl
  · cases h
    refine dec_run (q := pc + 1 + 2) ?_ rfl
    unfold Decoder.instr
    rw [bind_run (u1_run h0)]
    show (Reader.u2 >>= fun x => pure (Instr.invokespecial x) : Decoder Instr).runAt A (pc + 1) = _
    rw [bind_run (u2_run (h1 (by omega)) (h2 (by omega)))]
    rfl
  · cases h
    refine dec_run (q := pc + 1 + 2) ?_ rfl
    unfold Decoder.instr
    rw [bind_run (u1_run h0)]
    show (Reader.u2 >>= fun x => pure (Instr.invokestatic x) : Decoder Instr).runAt A (pc + 1) = _
    rw [bind_run (u2_run (h1 (by omega)) (h2 (by omega)))]
    rfl
  · cases h
    refine dec_run (q := pc + 1 + 2) ?_ rfl
    unfold Decoder.instr
    rw [bind_run (u1_run h0)]
    show (Reader.u2 >>= fun x => pure (Instr.new x) : Decoder Instr).runAt A (pc + 1) = _
    rw [bind_run (u2_run (h1 (by omega)) (h2 (by omega)))]
    rfl
  · split at h
    · rename_i hb
      cases h
      subst hb
      refine dec_run (q := pc + 1 + 1) ?_ rfl
      unfold Decoder.instr
      rw [bind_run (u1_run h0)]
      show (Decoder.newarray pc).runAt A (pc + 1) = _
      unfold Decoder.newarray
      rw [bind_run (u1_run (h1 (by omega)))]
      rfl
    · cases h
  · cases h
    refine dec_run (q := pc + 1) ?_ rfl
    unfold Decoder.instr
    rw [bind_run (u1_run h0)]
    rfl
  · cases h
set_option maxRecDepth 100000 in
def lawB : List Nat := [187, 0, 8, 89, 183, 0, 120, 76, 187, 0, 121, 89, 183, 0, 123, 77, 4, 188, 11, 78, 3, 54, 4, 21, 4, 42, 190, 16, 6, 100, 163, 10, 73, 42, 21, 4, 46, 16, 63, 126, 170, 0, 0, 0, 0, 0, 10, 57, 0, 0, 0, 0, 0, 0, 0, 52, 0, 0, 0, 228, 0, 0, 1, 45, 0, 0, 1, 70, 0, 0, 1, 114, 0, 0, 1, 158, 0, 0, 1, 171, 0, 0, 1, 239, 0, 0, 2, 51, 0, 0, 2, 107, 0, 0, 2, 175, 0, 0, 2, 231, 0, 0, 3, 43, 0, 0, 3, 106, 0, 0, 3, 169, 0, 0, 4, 16, 0, 0, 4, 96, 0, 0, 4, 180, 0, 0, 4, 193, 0, 0, 4, 206, 0, 0, 4, 250, 0, 0, 5, 7, 0, 0, 5, 51, 0, 0, 5, 95, 0, 0, 5, 139, 0, 0, 5, 211, 0, 0, 5, 255, 0, 0, 6, 55, 0, 0, 6, 68, 0, 0, 6, 93, 0, 0, 6, 118, 0, 0, 6, 131, 0, 0, 6, 187, 0, 0, 6, 200, 0, 0, 7, 12, 0, 0, 7, 68, 0, 0, 7, 136, 0, 0, 7, 204, 0, 0, 7, 217, 0, 0, 7, 230, 0, 0, 7, 243, 0, 0, 8, 0, 0, 0, 8, 13, 0, 0, 8, 26, 0, 0, 8, 82, 0, 0, 8, 162, 0, 0, 8, 246, 0, 0, 9, 74, 0, 0, 9, 158, 0, 0, 9, 226, 0, 0, 9, 251, 0, 0, 10, 8, 0, 0, 10, 19, 0, 0, 10, 32, 43, 42, 21, 4, 4, 96, 46, 42, 21, 4, 5, 96, 46, 42, 21, 4, 6, 96, 46, 42, 21, 4, 7, 96, 46, 42, 21, 4, 8, 96, 46, 182, 0, 124, 44, 42, 21, 4, 4, 96, 46, 42, 21, 4, 5, 96, 46, 42, 21, 4, 6, 96, 46, 42, 21, 4, 7, 96, 46, 42, 21, 4, 8, 96, 46, 182, 0, 128, 159, 9, 17, 3, 172, 43, 42, 21, 4, 4, 96, 46, 182, 0, 129, 44, 42, 21, 4, 4, 96, 46, 182, 0, 132, 159, 8, 248, 3, 172, 43, 45, 184, 0, 133, 54, 5, 44, 182, 0, 138, 54, 6, 44, 182, 0, 139, 21, 5, 159, 0, 5, 3, 172, 21, 5, 154, 0, 15, 45, 3, 47, 21, 6, 133, 148, 153, 0, 5, 3, 172, 167, 8, 202, 43, 45, 184, 0, 142, 54, 5, 44, 182, 0, 144, 54, 6, 44, 182, 0, 139, 21, 5, 159, 0, 5, 3, 172, 21, 5, 154, 0, 15, 45, 3, 47, 21, 6, 133, 148, 153, 0, 5, 3, 172, 167, 8, 158, 43, 182, 0, 145, 44, 182, 0, 148, 159, 8, 147, 3, 172, 43, 42, 21, 4, 4, 96, 46, 42, 21, 4, 5, 96, 46, 45, 184, 0, 149, 54, 5, 44, 42, 21, 4, 4, 96, 46, 42, 21, 4, 5, 96, 46, 182, 0, 152, 54, 6, 44, 182, 0, 139, 21, 5, 159, 0, 5, 3, 172, 21, 5, 154, 0, 15, 45, 3, 47, 21, 6, 133, 148, 153, 0, 5, 3, 172, 167, 8, 77, 43, 42, 21, 4, 4, 96, 46, 42, 21, 4, 5, 96, 46, 45, 184, 0, 153, 54, 5, 44, 42, 21, 4, 4, 96, 46, 42, 21, 4, 5, 96, 46, 182, 0, 155, 54, 6, 44, 182, 0, 139, 21, 5, 159, 0, 5, 3, 172, 21, 5, 154, 0, 15, 45, 3, 47, 21, 6, 133, 148, 153, 0, 5, 3, 172, 167, 8, 9, 43, 42, 21, 4, 4, 96, 46, 45, 184, 0, 156, 54, 5, 44, 42, 21, 4, 4, 96, 46, 182, 0, 159, 54, 6, 44, 182, 0, 139, 21, 5, 159, 0, 5, 3, 172, 21, 5, 154, 0, 15, 45, 3, 47, 21, 6, 133, 148, 153, 0, 5, 3, 172, 167, 7, 209, 43, 42, 21, 4, 4, 96, 46, 42, 21, 4, 5, 96, 46, 45, 184, 0, 160, 54, 5, 44, 42, 21, 4, 4, 96, 46, 42, 21, 4, 5, 96, 46, 182, 0, 162, 54, 6, 44, 182, 0, 139, 21, 5, 159, 0, 5, 3, 172, 21, 5, 154, 0, 15, 45, 3, 47, 21, 6, 133, 148, 153, 0, 5, 3, 172, 167, 7, 141, 43, 42, 21, 4, 4, 96, 46, 45, 184, 0, 163, 54, 5, 44, 42, 21, 4, 4, 96, 46, 182, 0, 165, 54, 6, 44, 182, 0, 139, 21, 5, 159, 0, 5, 3, 172, 21, 5, 154, 0, 15, 45, 3, 47, 21, 6, 133, 148, 153, 0, 5, 3, 172, 167, 7, 85, 43, 42, 21, 4, 4, 96, 46, 42, 21, 4, 5, 96, 46, 45, 184, 0, 166, 54, 5, 44, 42, 21, 4, 4, 96, 46, 42, 21, 4, 5, 96, 46, 182, 0, 168, 54, 6, 44, 182, 0, 139, 21, 5, 159, 0, 5, 3, 172, 21, 5, 154, 0, 15, 45, 3, 47, 21, 6, 133, 148, 153, 0, 5, 3, 172, 167, 7, 17, 43, 42, 21, 4, 4, 96, 46, 45, 184, 0, 169, 54, 5, 44, 42, 21, 4, 4, 96, 46, 182, 0, 171, 54, 6, 44, 182, 0, 139, 21, 5, 159, 0, 5, 3, 172, 21, 5, 154, 0, 22, 45, 3, 47, 21, 6, 153, 0, 7, 10, 167, 0, 4, 9, 148, 153, 0, 5, 3, 172, 167, 6, 210, 43, 42, 21, 4, 4, 96, 46, 45, 184, 0, 172, 54, 5, 44, 42, 21, 4, 4, 96, 46, 182, 0, 174, 54, 6, 44, 182, 0, 139, 21, 5, 159, 0, 5, 3, 172, 21, 5, 154, 0, 22, 45, 3, 47, 21, 6, 153, 0, 7, 10, 167, 0, 4, 9, 148, 153, 0, 5, 3, 172, 167, 6, 147, 43, 42, 21, 4, 4, 96, 46, 42, 21, 4, 5, 96, 46, 42, 21, 4, 6, 96, 46, 153, 0, 7, 4, 167, 0, 4, 3, 45, 184, 0, 175, 54, 5, 44, 42, 21, 4, 4, 96, 46, 42, 21, 4, 5, 96, 46, 42, 21, 4, 6, 96, 46, 153, 0, 7, 4, 167, 0, 4, 3, 182, 0, 178, 54, 6, 44, 182, 0, 139, 21, 5, 159, 0, 5, 3, 172, 21, 5, 154, 0, 22, 45, 3, 47, 21, 6, 153, 0, 7, 10, 167, 0, 4, 9, 148, 153, 0, 5, 3, 172, 167, 6, 44, 43, 42, 21, 4, 4, 96, 46, 42, 21, 4, 5, 96, 46, 42, 21, 4, 6, 96, 46, 45, 184, 0, 179, 54, 5, 44, 42, 21, 4, 4, 96, 46, 42, 21, 4, 5, 96, 46, 42, 21, 4, 6, 96, 46, 182, 0, 182, 54, 6, 44, 182, 0, 139, 21, 5, 159, 0, 5, 3, 172, 21, 5, 154, 0, 15, 45, 3, 47, 21, 6, 133, 148, 153, 0, 5, 3, 172, 167, 5, 220, 43, 42, 21, 4, 4, 96, 46, 42, 21, 4, 5, 96, 46, 153, 0, 7, 4, 167, 0, 4, 3, 45, 184, 0, 183, 54, 5, 44, 42, 21, 4, 4, 96, 46, 42, 21, 4, 5, 96, 46, 153, 0, 7, 4, 167, 0, 4, 3, 182, 0, 186, 54, 6, 44, 182, 0, 139, 21, 5, 159, 0, 5, 3, 172, 21, 5, 154, 0, 15, 45, 3, 47, 21, 6, 133, 148, 153, 0, 5, 3, 172, 167, 5, 136, 43, 182, 0, 187, 44, 182, 0, 190, 159, 5, 125, 3, 172, 43, 182, 0, 191, 44, 182, 0, 194, 159, 5, 112, 3, 172, 43, 45, 184, 0, 195, 54, 5, 44, 182, 0, 197, 54, 6, 44, 182, 0, 139, 21, 5, 159, 0, 5, 3, 172, 21, 5, 154, 0, 15, 45, 3, 47, 21, 6, 133, 148, 153, 0, 5, 3, 172, 167, 5, 66, 43, 182, 0, 198, 44, 182, 0, 201, 159, 5, 55, 3, 172, 43, 45, 184, 0, 202, 54, 5, 44, 182, 0, 204, 54, 6, 44, 182, 0, 139, 21, 5, 159, 0, 5, 3, 172, 21, 5, 154, 0, 15, 45, 3, 47, 21, 6, 133, 148, 153, 0, 5, 3, 172, 167, 5, 9, 43, 45, 184, 0, 205, 54, 5, 44, 182, 0, 207, 54, 6, 44, 182, 0, 139, 21, 5, 159, 0, 5, 3, 172, 21, 5, 154, 0, 15, 45, 3, 47, 21, 6, 133, 148, 153, 0, 5, 3, 172, 167, 4, 221, 43, 45, 184, 0, 208, 54, 5, 44, 182, 0, 210, 54, 6, 44, 182, 0, 139, 21, 5, 159, 0, 5, 3, 172, 21, 5, 154, 0, 15, 45, 3, 47, 21, 6, 133, 148, 153, 0, 5, 3, 172, 167, 4, 177, 43, 42, 21, 4, 4, 96, 46, 153, 0, 7, 4, 167, 0, 4, 3, 45, 184, 0, 211, 54, 5, 44, 42, 21, 4, 4, 96, 46, 153, 0, 7, 4, 167, 0, 4, 3, 182, 0, 214, 54, 6, 44, 182, 0, 139, 21, 5, 159, 0, 5, 3, 172, 21, 5, 154, 0, 15, 45, 3, 47, 21, 6, 133, 148, 153, 0, 5, 3, 172, 167, 4, 105, 43, 45, 184, 0, 215, 54, 5, 44, 182, 0, 217, 54, 6, 44, 182, 0, 139, 21, 5, 159, 0, 5, 3, 172, 21, 5, 154, 0, 15, 45, 3, 47, 21, 6, 133, 148, 153, 0, 5, 3, 172, 167, 4, 61, 43, 42, 21, 4, 4, 96, 46, 45, 184, 0, 218, 54, 5, 44, 42, 21, 4, 4, 96, 46, 182, 0, 220, 54, 6, 44, 182, 0, 139, 21, 5, 159, 0, 5, 3, 172, 21, 5, 154, 0, 15, 45, 3, 47, 21, 6, 133, 148, 153, 0, 5, 3, 172, 167, 4, 5, 43, 182, 0, 221, 44, 182, 0, 224, 159, 3, 250, 3, 172, 43, 42, 21, 4, 4, 96, 46, 182, 0, 225, 44, 42, 21, 4, 4, 96, 46, 182, 0, 228, 159, 3, 225, 3, 172, 43, 42, 21, 4, 4, 96, 46, 182, 0, 229, 44, 42, 21, 4, 4, 96, 46, 182, 0, 232, 159, 3, 200, 3, 172, 43, 182, 0, 233, 44, 182, 0, 236, 159, 3, 187, 3, 172, 43, 42, 21, 4, 4, 96, 46, 45, 184, 0, 237, 54, 5, 44, 42, 21, 4, 4, 96, 46, 182, 0, 239, 54, 6, 44, 182, 0, 139, 21, 5, 159, 0, 5, 3, 172, 21, 5, 154, 0, 15, 45, 3, 47, 21, 6, 133, 148, 153, 0, 5, 3, 172, 167, 3, 129, 43, 182, 0, 240, 44, 182, 0, 243, 159, 3, 118, 3, 172, 43, 42, 21, 4, 4, 96, 46, 42, 21, 4, 5, 96, 46, 45, 184, 0, 244, 54, 5, 44, 42, 21, 4, 4, 96, 46, 42, 21, 4, 5, 96, 46, 182, 0, 246, 54, 6, 44, 182, 0, 139, 21, 5, 159, 0, 5, 3, 172, 21, 5, 154, 0, 15, 45, 3, 47, 21, 6, 133, 148, 153, 0, 5, 3, 172, 167, 3, 48, 43, 42, 21, 4, 4, 96, 46, 45, 184, 0, 247, 54, 5, 44, 42, 21, 4, 4, 96, 46, 182, 0, 249, 54, 6, 44, 182, 0, 139, 21, 5, 159, 0, 5, 3, 172, 21, 5, 154, 0, 15, 45, 3, 47, 21, 6, 133, 148, 153, 0, 5, 3, 172, 167, 2, 248, 43, 42, 21, 4, 4, 96, 46, 42, 21, 4, 5, 96, 46, 45, 184, 0, 250, 54, 5, 44, 42, 21, 4, 4, 96, 46, 42, 21, 4, 5, 96, 46, 182, 0, 252, 54, 6, 44, 182, 0, 139, 21, 5, 159, 0, 5, 3, 172, 21, 5, 154, 0, 15, 45, 3, 47, 21, 6, 133, 148, 153, 0, 5, 3, 172, 167, 2, 180, 43, 42, 21, 4, 4, 96, 46, 42, 21, 4, 5, 96, 46, 45, 184, 0, 253, 54, 5, 44, 42, 21, 4, 4, 96, 46, 42, 21, 4, 5, 96, 46, 182, 0, 255, 54, 6, 44, 182, 0, 139, 21, 5, 159, 0, 5, 3, 172, 21, 5, 154, 0, 15, 45, 3, 47, 21, 6, 133, 148, 153, 0, 5, 3, 172, 167, 2, 112, 43, 182, 1, 0, 44, 182, 1, 3, 159, 2, 101, 3, 172, 43, 182, 1, 4, 44, 182, 1, 7, 159, 2, 88, 3, 172, 43, 182, 1, 8, 44, 182, 1, 11, 159, 2, 75, 3, 172, 43, 182, 1, 12, 44, 182, 1, 15, 159, 2, 62, 3, 172, 43, 182, 1, 16, 44, 182, 1, 19, 159, 2, 49, 3, 172, 43, 182, 1, 20, 44, 182, 1, 23, 159, 2, 36, 3, 172, 43, 42, 21, 4, 4, 96, 46, 45, 184, 1, 24, 54, 5, 44, 42, 21, 4, 4, 96, 46, 182, 1, 26, 54, 6, 44, 182, 0, 139, 21, 5, 159, 0, 5, 3, 172, 21, 5, 154, 0, 15, 45, 3, 47, 21, 6, 133, 148, 153, 0, 5, 3, 172, 167, 1, 234, 43, 42, 21, 4, 4, 96, 46, 42, 21, 4, 5, 96, 46, 42, 21, 4, 6, 96, 46, 45, 184, 1, 27, 54, 5, 44, 42, 21, 4, 4, 96, 46, 42, 21, 4, 5, 96, 46, 42, 21, 4, 6, 96, 46, 182, 1, 29, 54, 6, 44, 182, 0, 139, 21, 5, 159, 0, 5, 3, 172, 21, 5, 154, 0, 15, 45, 3, 47, 21, 6, 133, 148, 153, 0, 5, 3, 172, 167, 1, 154, 43, 42, 21, 4, 4, 96, 46, 42, 21, 4, 5, 96, 46, 153, 0, 7, 4, 167, 0, 4, 3, 45, 184, 1, 30, 54, 5, 44, 42, 21, 4, 4, 96, 46, 42, 21, 4, 5, 96, 46, 153, 0, 7, 4, 167, 0, 4, 3, 182, 1, 32, 54, 6, 44, 182, 0, 139, 21, 5, 159, 0, 5, 3, 172, 21, 5, 154, 0, 15, 45, 3, 47, 21, 6, 133, 148, 153, 0, 5, 3, 172, 167, 1, 70, 43, 42, 21, 4, 4, 96, 46, 42, 21, 4, 5, 96, 46, 153, 0, 7, 4, 167, 0, 4, 3, 45, 184, 1, 33, 54, 5, 44, 42, 21, 4, 4, 96, 46, 42, 21, 4, 5, 96, 46, 153, 0, 7, 4, 167, 0, 4, 3, 182, 1, 35, 54, 6, 44, 182, 0, 139, 21, 5, 159, 0, 5, 3, 172, 21, 5, 154, 0, 15, 45, 3, 47, 21, 6, 133, 148, 153, 0, 5, 3, 172, 167, 0, 242, 43, 42, 21, 4, 4, 96, 46, 42, 21, 4, 5, 96, 46, 153, 0, 7, 4, 167, 0, 4, 3, 45, 184, 1, 36, 54, 5, 44, 42, 21, 4, 4, 96, 46, 42, 21, 4, 5, 96, 46, 153, 0, 7, 4, 167, 0, 4, 3, 182, 1, 38, 54, 6, 44, 182, 0, 139, 21, 5, 159, 0, 5, 3, 172, 21, 5, 154, 0, 15, 45, 3, 47, 21, 6, 133, 148, 153, 0, 5, 3, 172, 167, 0, 158, 43, 42, 21, 4, 4, 96, 46, 42, 21, 4, 5, 96, 46, 45, 184, 1, 39, 54, 5, 44, 42, 21, 4, 4, 96, 46, 42, 21, 4, 5, 96, 46, 182, 1, 41, 54, 6, 44, 182, 0, 139, 21, 5, 159, 0, 5, 3, 172, 21, 5, 154, 0, 15, 45, 3, 47, 21, 6, 133, 148, 153, 0, 5, 3, 172, 167, 0, 90, 43, 42, 21, 4, 4, 96, 46, 182, 1, 42, 44, 42, 21, 4, 4, 96, 46, 182, 1, 45, 159, 0, 67, 3, 172, 43, 182, 1, 46, 44, 182, 1, 50, 159, 0, 54, 3, 172, 43, 182, 1, 51, 44, 182, 1, 54, 167, 0, 41, 43, 182, 1, 55, 44, 182, 1, 58, 159, 0, 30, 3, 172, 43, 42, 21, 4, 4, 96, 46, 182, 1, 59, 44, 42, 21, 4, 4, 96, 46, 182, 1, 62, 159, 0, 5, 3, 172, 132, 4, 6, 167, 245, 179, 4, 172]
set_option maxRecDepth 100000 in
theorem lawB_ok : code.data.toList.map UInt8.toNat = lawB := by decide +kernel
theorem bt_list {A : ByteArray} {p : Nat} : bt A p = (A.data.toList.map UInt8.toNat)[p]? := by
  unfold bt
  split
  · rename_i h
    rw [List.getElem?_map, List.getElem?_eq_getElem (by simpa using h)]
    rfl
  · rename_i h
    rw [List.getElem?_eq_none (by simpa using h)]
/-- rows against bytes, one behind another -/
def chk : Nat → List Nat → List (Nat × Li × Nat) → Bool
  | _, _, [] => true
  | p, bs, q :: r => Nat.beq q.1 p && Nat.ble q.2.2 bs.length && (Nat.beq q.2.1.1 12 || (match toI q.1 q.2.2 q.2.1 with
    | some i => decide (dm (bs.getD 0 0) (bs.getD 1 0) (bs.getD 2 0) = some (i, q.2.2))
    | none => false)) && Nat.blt 0 q.2.2 && chk (p + q.2.2) (bs.drop q.2.2) r
theorem chk_ok {A : ByteArray} {B : List Nat} (hB : A.data.toList.map UInt8.toNat = B) : ∀ (r : List (Nat × Li × Nat)) (p : Nat), chk p (B.drop p) r = true → ∀ q ∈ r, q.2.1.1 = 12 ∨ okI A q = true
  | [], _, _, q, hq => by cases hq
  | x :: r, p, h, q, hq => by
    simp only [chk, Bool.and_eq_true] at h
    obtain ⟨⟨⟨⟨h1, h2⟩, h3⟩, h4⟩, h5⟩ := h
    rcases List.mem_cons.mp hq with rfl | hq
    · have e1 : q.1 = p := Nat.eq_of_beq_eq_true h1
      have e2 : q.2.2 ≤ (B.drop p).length := Nat.le_of_ble_eq_true h2
      have e4 : 0 < q.2.2 := by simpa [Nat.blt_eq] using h4
      rw [List.length_drop] at e2
      rcases Bool.or_eq_true _ _ ▸ h3 with h3 | h3
      · exact Or.inl (Nat.eq_of_beq_eq_true h3)
      · right
        unfold okI
        split at h3
        · rename_i i hi
          rw [hi]
          refine decide_eq_true ?_
          have hat : ∀ j, j < q.2.2 → bt A (q.1 + j) = some ((B.drop p).getD j 0) := by
            intro j hj
            rw [bt_list, hB, List.getD_eq_getElem?_getD, List.getElem?_drop, e1]
            rw [List.getElem?_eq_getElem (by omega)]
            rfl
          exact dm_ok (of_decide_eq_true h3) (hat 0 e4) (fun hn => hat 1 (by omega)) (fun hn => hat 2 (by omega))
        · cases h3
    · refine chk_ok hB r (p + x.2.2) ?_ q hq
      rw [List.drop_drop] at h5
      exact h5
def lawR : List (Nat × Li × Nat) := mc_369.flatMap (·.2)
set_option maxRecDepth 100000 in
theorem lawR_ok : chk 0 (lawB.drop 0) lawR = true := by decide +kernel
theorem lawT_ok : (lawR.filter fun q => Nat.beq q.2.1.1 12).all (okI code) = true := by decide +kernel
theorem okW : okC code mc_369 = true := by
  unfold okC
  refine List.all_eq_true.mpr fun ch hch => List.all_eq_true.mpr fun q hq => ?_
  have hm : q ∈ lawR := List.mem_flatMap.mpr ⟨ch, hch, hq⟩
  rcases chk_ok lawB_ok lawR 0 lawR_ok q hm with h | h
  · exact List.all_eq_true.mp lawT_ok q (List.mem_filter.mpr ⟨hm, by rw [h]; rfl⟩)
  · exact h
theorem okM_9' : mR_9.all okM = true := by
  have e : mR_9 = mR_9.take 9 ++ mR_9.drop 9 := (List.take_append_drop 9 _).symm
  rw [e, List.all_append, okM_9, Bool.true_and]
  show (okC code mc_369 && true) = true
  rw [okW]; rfl
theorem okM_of {M : Nat} {r : Mr} (h : mRow M = some r) : okC r.2.1 r.2.2.2.2.2.2.2.1 = true := by
  have key : ∀ {l : List Mr}, l.all okM = true → ∀ {i : Nat}, l[i]? = some r → okM r = true := fun hl i hi => List.all_eq_true.mp hl r (List.mem_of_getElem? hi)
  unfold mRow at h
  split at h
  · exact key okM_0 h
  · exact key okM_1 h
  · exact key okM_2 h
  · exact key okM_3 h
  · exact key okM_4 h
  · exact key okM_5 h
  · exact key okM_6 h
  · exact key okM_7 h
  · exact key okM_8 h
  · exact key okM_9' h
  · cases h
