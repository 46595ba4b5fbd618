/-! the instructions by groups -/
section TG
variable {pc len j k : Nat} {z : Int} {ts : List Nat}
theorem toI_0 : toI pc len (0, j, k, z, ts) = (match j, len with
    | 0, 1 => some (.iconst z)
    | 1, 2 => some (.bipush z)
    | 2, 3 => some (.sipush z)
    | 3, 1 => if h : k < 2 then some (.lconst ⟨k, h⟩) else none
    | 4, 1 => some .aconst_null
    | _, _ => none) := rfl
theorem toI_1 : toI pc len (1, j, k, z, ts) = (match j, z, len with
    | 0, 0, 2 => some (.iload k)
    | 0, 1, 1 => f4 k .iload_n
    | 1, 0, 2 => some (.lload k)
    | 1, 1, 1 => f4 k .lload_n
    | 2, 0, 2 => some (.aload k)
    | 2, 1, 1 => f4 k .aload_n
    | _, _, _ => none) := rfl
theorem toI_2 : toI pc len (2, j, k, z, ts) = (match j, z, len with
    | 0, 0, 2 => some (.istore k)
    | 0, 1, 1 => f4 k .istore_n
    | 1, 0, 2 => some (.lstore k)
    | 1, 1, 1 => f4 k .lstore_n
    | 2, 0, 2 => some (.astore k)
    | 2, 1, 1 => f4 k .astore_n
    | _, _, _ => none) := rfl
theorem toI_3 : toI pc len (3, j, k, z, ts) = (match len with
    | 3 => some (.iinc k z)
    | _ => none) := rfl
theorem toI_4 : toI pc len (4, j, k, z, ts) = (match j, len with
    | 0, 1 => some .iadd
    | 1, 1 => some .isub
    | 2, 1 => some .imul
    | 3, 1 => some .idiv
    | 4, 1 => some .irem
    | 5, 1 => some .ishl
    | 6, 1 => some .ishr
    | 7, 1 => some .iushr
    | 8, 1 => some .iand
    | 9, 1 => some .ior
    | 10, 1 => some .ixor
    | _, _ => none) := rfl
theorem toI_5 : toI pc len (5, j, k, z, ts) = (match j, len with
    | 0, 1 => some .ladd
    | 1, 1 => some .lsub
    | 2, 1 => some .lmul
    | 3, 1 => some .ldiv
    | 4, 1 => some .lrem
    | 5, 1 => some .lcmp
    | _, _ => none) := rfl
theorem toI_6 : toI pc len (6, j, k, z, ts) = (match j, len with
    | 0, 1 => some .ineg
    | 1, 1 => some .i2l
    | 2, 1 => some .l2i
    | 3, 1 => some .i2b
    | 4, 1 => some .i2c
    | _, _ => none) := rfl
theorem toI_7 : toI pc len (7, j, k, z, ts) = (match j, len with
    | 0, 1 => some .dup
    | 1, 1 => some .pop
    | 2, 1 => some .dup2
    | _, _ => none) := rfl
theorem toI_8 : toI pc len (8, j, k, z, ts) = (match len with
    | 3 => (toCond j).map fun c => .ifCond c ((k : Int) - pc)
    | _ => none) := rfl
theorem toI_9 : toI pc len (9, j, k, z, ts) = (match len with
    | 3 => (toCond j).map fun c => .if_icmp c ((k : Int) - pc)
    | _ => none) := rfl
theorem toI_10 : toI pc len (10, j, k, z, ts) = (match len with
    | 3 => some (.goto ((k : Int) - pc))
    | _ => none) := rfl
theorem toI_11 : toI pc len (11, j, k, z, ts) = (match j, len with
    | 0, 3 => some (.ifnull ((k : Int) - pc))
    | 1, 3 => some (.ifnonnull ((k : Int) - pc))
    | _, _ => none) := rfl
theorem toI_12 : toI pc len (12, j, k, z, ts) = some (.tableswitch ((k : Int) - pc) z (z + ts.length - 1) (ts.map fun (t : Nat) => (Int.ofNat t) - pc).toArray) := rfl
theorem toI_13 : toI pc len (13, j, k, z, ts) = (match z, len with
    | 0, 2 => some (.ldc k)
    | 1, 3 => some (.ldc_w k)
    | 2, 3 => some (.ldc2_w k)
    | 3, 3 => some (.getstatic k)
    | _, _ => none) := rfl
theorem toI_14 : toI pc len (14, j, k, z, ts) = (match len with
    | 3 => some (.getfield k)
    | _ => none) := rfl
theorem toI_15 : toI pc len (15, j, k, z, ts) = (match len with
    | 3 => some (.putfield k)
    | _ => none) := rfl
theorem toI_16 : toI pc len (16, j, k, z, ts) = (match j, len with
    | 0, 1 => some .iaload
    | 1, 1 => some .laload
    | 2, 1 => some .aaload
    | 3, 1 => some .baload
    | _, _ => none) := rfl
theorem toI_17 : toI pc len (17, j, k, z, ts) = (match j, len with
    | 0, 1 => some .iastore
    | 1, 1 => some .lastore
    | 2, 1 => some .aastore
    | 3, 1 => some .bastore
    | _, _ => none) := rfl
theorem toI_18 : toI pc len (18, j, k, z, ts) = (match len with
    | 1 => some .arraylength
    | _ => none) := rfl
theorem toI_19 : toI pc len (19, j, k, z, ts) = (match k, len with
    | 4, 2 => some (.newarray .boolean)
    | 8, 2 => some (.newarray .byte)
    | 10, 2 => some (.newarray .int)
    | 11, 2 => some (.newarray .long)
    | _, _ => none) := rfl
theorem toI_20 : toI pc len (20, j, k, z, ts) = (match len with
    | 3 => some (.new k)
    | _ => none) := rfl
theorem toI_21 : toI pc len (21, j, k, z, ts) = (match len with
    | 3 => some (.anewarray k)
    | _ => none) := rfl
theorem toI_22 : toI pc len (22, j, k, z, ts) = (match z, len with
    | 2, 4 => some (.multianewarray k 2)
    | _, _ => none) := rfl
theorem toI_23 : toI pc len (23, j, k, z, ts) = (match j, len with
    | 0, 3 => some (.invokevirtual k)
    | 1, 3 => some (.invokespecial k)
    | 2, 3 => some (.invokestatic k)
    | _, _ => none) := rfl
theorem toI_24 : toI pc len (24, j, k, z, ts) = (match j, len with
    | 0, 1 => some .ireturn
    | 1, 1 => some .lreturn
    | 2, 1 => some .areturn
    | 3, 1 => some .return_
    | _, _ => none) := rfl
theorem toI_25 : toI pc len (25, j, k, z, ts) = (match len with
    | 1 => some .athrow
    | _ => none) := rfl
theorem toI_26 : toI pc len (26, j, k, z, ts) = (match len with
    | 3 => some (.checkcast k)
    | _ => none) := rfl
end TG
