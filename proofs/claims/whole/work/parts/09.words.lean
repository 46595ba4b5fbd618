/-! the words of the tables for each link and each method; written by program -/
def sTx : List String := ["peat water drain turves hearth right sun shower rain day", "dry", "hands", "need", "store", "the text is wrong", "there are twelve texts", "dry soak sink", "if", "not", "drained rain laid", "cell x y depth water turves sun", "and", "or", "there is no such cell", "nothing such is told of a cell", "there is no such hearth", "nothing such is told of a hearth", "so many days are none", "the hearth may not cut there", "these cannot be footed or ricked", "these cannot be carted home", "that is no trade", "the store is less", "there is no such sun", "the tape tells no such cells", "the tape tells no such rows", "both are one", "there is no such stage", "nothing such is told of days ahead", "nothing such is told in the log", "peat", "water", "drain", "turves", "dry", "hearth", "hands", "need", "store", "right", "sun", "shower", "rain", "day", "soak", "sink", "if", "not", "drained", "laid", "cell", "x", "y", "depth", "and", "or"]
def nestL : List (Nat × Nat) := [(1, 73), (1, 80), (1, 94), (2, 41)]
def y_objInit : MethodName := ⟨"java/lang/Object", "<init>", "()V"⟩
def y_copy : MethodName := ⟨"java/lang/System", "arraycopy", "(Ljava/lang/Object;ILjava/lang/Object;II)V"⟩
def y_clone : MethodName := ⟨"[I", "clone", "()Ljava/lang/Object;"⟩
def y_chk : MethodName := ⟨"java/lang/String", "checkIndex", "(II)V"⟩
def y_exc (c : Nat) : MethodName := ⟨cN c, "<init>", "(Ljava/lang/String;)V"⟩
def sFl (k : Nat) : String × String × String := match k with
  | 1000 => ("TurfBog$Matching", "CELL_DIGITS", "[J")
  | 1001 => ("TurfBog$Matching", "PAIR_DIGITS", "[J")
  | _ => ("TurfBog", "HUNDREDS", "[J")
/-- the word for a link -/
def lkW (c i : Nat) (k : Lk) : Option Cond := match k.1 with
  | 30 => some (.constant (cN c) i (Int32.ofNat k.2.1))
  | 31 => some (.constantLong (cN c) i (Int64.ofNat k.2.1))
  | 32 => some (.stringRef (cN c) i (sTx.getD (k.2.1 / 2) ""))
  | 40 => some (.fieldLink (cN c) i (sFl k.2.1).1 (sFl k.2.1).2.1 (sFl k.2.1).2.2)
  | 41 => some (.fieldLink (cN c) i "java/lang/String" "COMPACT_STRINGS" "Z")
  | 50 => (match mRow k.2.1 with
    | none => none
    | some r => bif nestL.elem (c, i) then some (.methodLinkNest (cN c) i (mY r) "TurfBog") else some (.methodLink (cN c) i (mY r)))
  | 51 => some (.methodLink (cN c) i y_objInit)
  | 52 => some (.methodLink (cN c) i (y_exc k.2.1))
  | 53 => some (.methodLink (cN c) i y_copy)
  | 54 => some (.methodLink (cN c) i y_clone)
  | 55 => some (.methodLink (cN c) i y_chk)
  | 60 => some (.classLink (cN c) i (cN k.2.1))
  | 62 => some (.classLink (cN c) i "[[I")
  | 63 => some (.classLink (cN c) i "[I")
  | _ => some (.fieldLink (cN c) i (cN k.2.1) (cF k.2.1 k.2.2).2.1 (cF k.2.1 k.2.2).2.2.1)
/-- tags that are known -/
def lkT (n : Nat) : Bool := [0, 1, 2, 10, 12, 30, 31, 32, 40, 41, 50, 51, 52, 53, 54, 55, 60, 62, 63].elem n
/-- what else a link says: fields are fields of that class, of that type -/
def lkF (k : Lk) : Bool := match k.1 with
  | 0 => Nat.blt k.2.2 (cL k.2.1) && !(cRf k.2.1 k.2.2) && decide ((cF k.2.1 k.2.2).2.2.1 = "I") && !(cF k.2.1 k.2.2).2.2.2 && Nat.blt k.2.1 13
  | 1 => Nat.blt k.2.2 (cL k.2.1) && !(cRf k.2.1 k.2.2) && decide ((cF k.2.1 k.2.2).2.2.1 = "Z") && !(cF k.2.1 k.2.2).2.2.2 && Nat.blt k.2.1 13
  | 2 => Nat.blt k.2.2 (cL k.2.1) && cRf k.2.1 k.2.2 && !(cF k.2.1 k.2.2).2.2.2 && Nat.blt k.2.1 13
  | 10 => Nat.blt k.2.2 (cL k.2.1) && !(cRf k.2.1 k.2.2) && (decide ((cF k.2.1 k.2.2).2.2.1 = "I") || Nat.beq k.2.1 13) && (cF k.2.1 k.2.2).2.2.2 && Nat.blt k.2.1 14
  | 12 => Nat.blt k.2.2 (cL k.2.1) && cRf k.2.1 k.2.2 && (cF k.2.1 k.2.2).2.2.2 && Nat.blt k.2.1 14
  | 50 => (match mRow k.2.1 with
    | none => false
    | some r => Nat.beq k.2.2 (100 * r.2.2.2.2.2.2.1 + r.1.2.2.1))
  | 52 => Nat.ble 14 k.2.1 && Nat.blt k.2.1 19
  | 60 => Nat.ble 1 k.2.1 && Nat.blt k.2.1 19 && !(Nat.beq k.2.1 13)
  | _ => true
def okL (c : Nat) (q : Nat × Lk × Nat) : Bool := lkT q.2.1.1 && lkF q.2.1 && (match lkW c q.1 q.2.1 with
  | none => false
  | some w => decide (lw_tbl[q.2.2]? = some w))
def okLs (c : Nat) : Bool := (lkl c).all fun ch => ch.2.all (okL c)
theorem okL_0 : okLs 0 = true := by decide +kernel
theorem okL_1 : okLs 1 = true := by decide +kernel
theorem okL_2 : okLs 2 = true := by decide +kernel
theorem okL_3 : okLs 3 = true := by decide +kernel
theorem okL_4 : okLs 4 = true := by decide +kernel
theorem okL_5 : okLs 5 = true := by decide +kernel
theorem okL_6 : okLs 6 = true := by decide +kernel
theorem okL_7 : okLs 7 = true := by decide +kernel
theorem okL_8 : okLs 8 = true := by decide +kernel
theorem okL_9 : okLs 9 = true := by decide +kernel
theorem okL_10 : okLs 10 = true := by decide +kernel
theorem okL_11 : okLs 11 = true := by decide +kernel
theorem okL_12 : okLs 12 = true := by decide +kernel
theorem okL_13 : okLs 13 = true := by decide +kernel
theorem okL_14 : okLs 14 = true := by decide +kernel
theorem okL_15 : okLs 15 = true := by decide +kernel
theorem okL_16 : okLs 16 = true := by decide +kernel
theorem okL_17 : okLs 17 = true := by decide +kernel
theorem okL_18 : okLs 18 = true := by decide +kernel
theorem okL_19 : okLs 19 = true := by decide +kernel
theorem okL_20 : okLs 20 = true := by decide +kernel
theorem okL_21 : okLs 21 = true := by decide +kernel
theorem okL_22 : okLs 22 = true := by decide +kernel
theorem okL_23 : okLs 23 = true := by decide +kernel
theorem okL_24 : okLs 24 = true := by decide +kernel
theorem okL_25 : okLs 25 = true := by decide +kernel
theorem okL_26 : okLs 26 = true := by decide +kernel
theorem okLs_of (c : Nat) : okLs c = true := by
  match c with
  | 0 => exact okL_0
  | 1 => exact okL_1
  | 2 => exact okL_2
  | 3 => exact okL_3
  | 4 => exact okL_4
  | 5 => exact okL_5
  | 6 => exact okL_6
  | 7 => exact okL_7
  | 8 => exact okL_8
  | 9 => exact okL_9
  | 10 => exact okL_10
  | 11 => exact okL_11
  | 12 => exact okL_12
  | 13 => exact okL_13
  | 14 => exact okL_14
  | 15 => exact okL_15
  | 16 => exact okL_16
  | 17 => exact okL_17
  | 18 => exact okL_18
  | 19 => exact okL_19
  | 20 => exact okL_20
  | 21 => exact okL_21
  | 22 => exact okL_22
  | 23 => exact okL_23
  | 24 => exact okL_24
  | 25 => exact okL_25
  | 26 => exact okL_26
  | n + 27 => rfl
theorem lk_row_mem {i : Nat} {k : Lk} : ∀ {r : List (Nat × Lk × Nat)}, lk_row i r = some k → ∃ n, (i, k, n) ∈ r
  | [], h => by cases h
  | q :: r, h => by
    rw [lk_row] at h
    cases hb : Nat.beq q.1 i with
    | true =>
      rw [hb] at h
      have e : q.1 = i := Nat.eq_of_beq_eq_true hb
      have e2 : q.2.1 = k := Option.some.inj h
      refine ⟨q.2.2, ?_⟩
      rw [← e, ← e2]
      exact List.mem_cons_self
    | false =>
      rw [hb] at h
      obtain ⟨n, hn⟩ := lk_row_mem h
      exact ⟨n, List.mem_cons_of_mem _ hn⟩
theorem lk_at_mem {i : Nat} {k : Lk} {c : Nat} : ∀ {r : List (Nat × List (Nat × Lk × Nat))}, (r.all fun ch => ch.2.all (okL c)) = true → lk_at i r = some k → ∃ n, okL c (i, k, n) = true
  | [], _, h => by cases h
  | ch :: r, ok, h => by
    simp only [List.all_cons, Bool.and_eq_true] at ok
    rw [lk_at] at h
    cases hb : Nat.blt i ch.1 with
    | true =>
      rw [hb] at h
      obtain ⟨n, hm⟩ := lk_row_mem h
      exact ⟨n, List.all_eq_true.mp ok.1 _ hm⟩
    | false =>
      rw [hb] at h
      exact lk_at_mem (r := r) ok.2 h
/-- a link's word stands in the tables -/
theorem lk_ok {c i : Nat} {k : Lk} (h : lk c i = some k) : lkT k.1 = true ∧ lkF k = true ∧ ∃ w, lkW c i k = some w ∧ w ∈ lw_tbl := by
  obtain ⟨n, hn⟩ := lk_at_mem (okLs_of c) h
  simp only [okL, Bool.and_eq_true] at hn
  obtain ⟨⟨h1, h2⟩, h3⟩ := hn
  refine ⟨h1, h2, ?_⟩
  split at h3
  · cases h3
  · rename_i w hw
    exact ⟨w, hw, List.mem_of_getElem? (of_decide_eq_true h3)⟩
/-- places in lw_tbl of a method's words: its class is initialised; static or instance; selects (0 where none is wanted) -/
def mP_0 : List (Nat × Nat × Nat) := [(127, 159, 0), (128, 167, 0), (129, 173, 0), (130, 189, 0), (131, 295, 0), (132, 313, 0), (133, 326, 0), (134, 360, 0), (135, 378, 0), (136, 394, 0), (137, 411, 0), (127, 469, 470), (127, 474, 0), (127, 477, 478), (127, 481, 482), (127, 485, 486), (128, 489, 490), (152, 494, 0), (152, 497, 0), (127, 503, 504), (128, 507, 508), (128, 511, 512), (127, 515, 516), (127, 520, 1), (128, 523, 524), (129, 530, 531), (127, 536, 2), (128, 540, 0), (128, 543, 544), (152, 548, 0), (139, 551, 0), (139, 554, 0), (128, 557, 558), (150, 561, 562), (150, 566, 3), (150, 570, 0), (150, 573, 0), (128, 576, 577), (128, 580, 581), (128, 584, 585)]
def mP_1 : List (Nat × Nat × Nat) := [(129, 588, 589), (127, 593, 594), (128, 597, 0), (127, 601, 602), (127, 606, 4), (127, 609, 610), (127, 613, 614), (128, 617, 618), (152, 621, 0), (127, 625, 626), (127, 629, 630), (127, 633, 634), (127, 637, 638), (127, 641, 642), (128, 645, 646), (127, 649, 650), (127, 653, 654), (127, 657, 658), (127, 661, 662), (127, 665, 666), (127, 669, 670), (127, 673, 674), (127, 677, 0), (155, 680, 0), (126, 686, 0), (127, 691, 692), (127, 696, 5), (131, 699, 700), (131, 705, 6), (132, 708, 709), (131, 712, 713), (132, 717, 7), (131, 721, 722), (141, 725, 726), (141, 729, 730), (141, 735, 736), (141, 739, 740), (142, 743, 0), (141, 746, 0), (143, 751, 0)]
def mP_2 : List (Nat × Nat × Nat) := [(144, 754, 0), (144, 757, 0), (144, 760, 0), (144, 764, 0), (132, 774, 8), (131, 777, 778), (131, 781, 782), (132, 786, 9), (132, 790, 10), (132, 794, 11), (131, 798, 799), (132, 804, 12), (132, 811, 13), (132, 815, 14), (131, 818, 819), (126, 908, 0), (127, 911, 912), (133, 915, 916), (133, 921, 16), (133, 930, 17), (133, 934, 18), (133, 938, 19), (133, 943, 20), (133, 949, 21), (150, 957, 0), (130, 961, 0), (126, 993, 0), (127, 998, 999), (127, 1002, 0), (128, 1023, 1024), (134, 1027, 0), (134, 1033, 1034), (134, 1038, 22), (134, 1044, 0), (152, 1047, 0), (134, 1051, 1052), (128, 1055, 1056), (126, 1075, 0), (127, 1078, 1079), (127, 1083, 23)]
def mP_3 : List (Nat × Nat × Nat) := [(127, 1089, 24), (126, 1093, 0), (127, 1096, 1097), (127, 1100, 0), (127, 1105, 25), (128, 1108, 1109), (128, 1113, 26), (126, 1117, 0), (127, 1121, 1122), (126, 1143, 0), (127, 1146, 1147), (126, 1151, 0), (127, 1154, 1155), (128, 1159, 1160), (128, 1163, 1164), (126, 1167, 0), (127, 1170, 1171), (126, 1174, 0), (127, 1177, 1178), (126, 1181, 0), (127, 1184, 1185), (126, 1188, 0), (127, 1191, 1192), (126, 1198, 0), (127, 1201, 1202), (126, 1206, 0), (127, 1209, 1210), (134, 1214, 1215), (134, 1220, 27), (134, 1223, 0), (126, 1226, 0), (127, 1229, 1230), (127, 1234, 28), (135, 1238, 1239), (135, 1243, 1244), (135, 1247, 0), (135, 1251, 29), (126, 1255, 0), (127, 1258, 1259), (135, 1262, 1263)]
def mP_4 : List (Nat × Nat × Nat) := [(126, 1266, 0), (127, 1269, 1270), (135, 1273, 1274), (126, 1278, 0), (127, 1281, 1282), (136, 1285, 1286), (136, 1290, 30), (136, 1293, 0), (136, 1296, 0), (136, 1299, 0), (136, 1304, 1305), (126, 1308, 0), (127, 1311, 1312), (136, 1315, 1316), (136, 1321, 31), (136, 1325, 32), (126, 1328, 0), (127, 1331, 1332), (137, 1335, 1336), (130, 1340, 0), (137, 1345, 33), (139, 1352, 0), (126, 1356, 0), (127, 1359, 1360), (126, 1364, 0), (127, 1367, 1368), (126, 1372, 0), (127, 1375, 1376), (137, 1379, 1380), (137, 1384, 34), (126, 1392, 0), (127, 1395, 1396), (127, 1401, 35), (126, 1404, 0), (127, 1407, 1408), (127, 1411, 0), (126, 1417, 0), (127, 1420, 1421), (126, 1425, 0), (127, 1428, 1429)]
def mP_5 : List (Nat × Nat × Nat) := [(126, 1433, 0), (127, 1436, 1437), (127, 1441, 36), (126, 1444, 0), (127, 1447, 1448), (126, 1452, 0), (127, 1455, 1456), (129, 1459, 1460), (126, 1463, 0), (127, 1466, 1467), (138, 1471, 1472), (138, 1477, 0), (138, 1481, 0), (138, 1570, 1571), (138, 1574, 1575), (138, 1578, 1579), (138, 1582, 1583), (138, 1586, 1587), (138, 1590, 1591), (138, 1594, 1595), (138, 1599, 37), (138, 1603, 38), (138, 1607, 39), (138, 1611, 40), (138, 1615, 41), (138, 1619, 42), (138, 1623, 43), (138, 1628, 44), (138, 1634, 45), (138, 1638, 46), (138, 1642, 47), (138, 1648, 48), (138, 1652, 49), (138, 1657, 50), (138, 1662, 51), (138, 1666, 52), (138, 1672, 53), (138, 1676, 54), (138, 1681, 55), (138, 1686, 0)]
def mP_6 : List (Nat × Nat × Nat) := [(138, 1691, 56), (138, 1696, 57), (138, 1702, 58), (138, 1707, 59), (138, 1714, 60), (138, 1718, 61), (138, 1722, 62), (138, 1726, 63), (138, 1731, 64), (138, 1735, 65), (138, 1741, 66), (138, 1745, 67), (138, 1749, 68), (138, 1759, 69), (138, 1762, 1763), (138, 1766, 1767), (138, 1770, 0), (138, 1773, 0), (138, 1777, 70), (138, 1781, 71), (138, 1785, 72), (138, 1788, 0), (138, 1791, 0), (138, 1794, 0), (138, 1797, 0), (138, 1802, 73), (138, 1806, 74), (138, 1810, 75), (138, 1814, 76), (138, 1818, 77), (138, 1822, 78), (138, 1826, 79), (138, 1830, 80), (138, 1835, 81), (138, 1839, 82), (138, 1843, 83), (138, 1847, 84), (138, 1851, 85), (138, 1856, 86), (138, 1861, 87)]
def mP_7 : List (Nat × Nat × Nat) := [(138, 1865, 88), (138, 1869, 89), (138, 1873, 90), (138, 1877, 91), (138, 1881, 92), (138, 1885, 93), (138, 1888, 1889), (138, 1893, 94), (138, 1897, 95), (138, 1901, 96), (138, 1904, 1905), (138, 1909, 97), (138, 1913, 98), (138, 1916, 1917), (138, 1921, 99), (138, 1924, 1925), (138, 1929, 100), (138, 1933, 101), (138, 1936, 1937), (138, 1941, 102), (138, 1944, 1945), (138, 1948, 1949), (138, 1952, 1953), (138, 1956, 1957), (138, 1960, 1961), (138, 1964, 1965), (138, 1968, 1969), (138, 1973, 103), (138, 1976, 1977), (138, 1981, 104), (155, 1984, 0), (138, 1988, 0), (138, 1992, 105), (138, 1996, 106), (138, 1999, 2000), (138, 2004, 107), (138, 2007, 2008), (138, 2012, 108), (138, 2016, 109), (138, 2020, 110)]
def mP_8 : List (Nat × Nat × Nat) := [(138, 2024, 111), (138, 2027, 2028), (138, 2031, 2032), (138, 2035, 2036), (138, 2040, 112), (138, 2044, 113), (138, 2048, 114), (138, 2051, 0), (138, 2054, 2055), (138, 2059, 115), (138, 2062, 2063), (138, 2067, 116), (138, 2070, 0), (138, 2073, 2074), (138, 2078, 117), (138, 2081, 2082), (138, 2086, 118), (138, 2089, 2090), (138, 2093, 2094), (138, 2098, 119), (138, 2101, 0), (138, 2104, 2105), (138, 2108, 2109), (138, 2112, 2113), (138, 2116, 2117), (138, 2121, 120), (138, 2125, 121), (138, 2128, 0), (138, 2132, 2133), (138, 2137, 122), (138, 2140, 2141), (138, 2146, 2147), (138, 2151, 123), (138, 2154, 2155), (138, 2158, 2159), (138, 2162, 2163), (138, 2166, 2167), (138, 2170, 2171), (138, 2174, 2175), (138, 2178, 2179)]
def mP_9 : List (Nat × Nat × Nat) := [(138, 2182, 0), (138, 2185, 2186), (138, 2190, 124), (138, 2193, 2194), (138, 2197, 2198), (138, 2202, 125), (138, 2205, 2206), (138, 2209, 2210), (138, 2213, 2214), (126, 0, 0)]
def okY (r : Mr) (q : Nat × Nat × Nat) : Bool :=
  decide (lw_tbl[r.2.2.2.2.2.2.2.2]? = some (bif r.2.2.2.2.2.1.isEmpty then .code (mY r) r.2.1 r.2.2.1 r.2.2.2.1 else .codeWith (mY r) r.2.1 r.2.2.1 r.2.2.2.1 r.2.2.2.2.2.1)) &&
  decide (lw_tbl[q.1]? = some (.initialized (cN r.1.2.2.1))) && decide (lw_tbl[q.2.1]? = some (bif r.1.2.2.2.1 then .static (mY r) else .instanceMethod (mY r))) &&
  (r.1.2.2.2.1 || r.1.2.2.2.2 || decide (lw_tbl[q.2.2]? = some (.selects (cN r.1.2.2.1) (mY r) (mY r)))) &&
  decide (r.1.2.2.2.2 = decide (r.1.1 = "<init>")) && plainName (cN r.1.2.2.1) && decide (cN r.1.2.2.1 ≠ "java/lang/invoke/MethodHandle") && decide (cN r.1.2.2.1 ≠ "java/lang/invoke/VarHandle") &&
  (match parseMethodDescriptor r.1.2.1 with
    | some sig => Nat.beq r.2.2.2.2.2.2.1 (bif r.1.2.2.2.1 then sig.parameters.length else sig.parameters.length + 1)
    | none => false) && Nat.ble r.2.2.1 40
theorem okY_0 : (mR_0.zip mP_0).all (fun q => okY q.1 q.2) = true ∧ mR_0.length = mP_0.length := by decide +kernel
theorem okY_1 : (mR_1.zip mP_1).all (fun q => okY q.1 q.2) = true ∧ mR_1.length = mP_1.length := by decide +kernel
theorem okY_2 : (mR_2.zip mP_2).all (fun q => okY q.1 q.2) = true ∧ mR_2.length = mP_2.length := by decide +kernel
theorem okY_3 : (mR_3.zip mP_3).all (fun q => okY q.1 q.2) = true ∧ mR_3.length = mP_3.length := by decide +kernel
theorem okY_4 : (mR_4.zip mP_4).all (fun q => okY q.1 q.2) = true ∧ mR_4.length = mP_4.length := by decide +kernel
theorem okY_5 : (mR_5.zip mP_5).all (fun q => okY q.1 q.2) = true ∧ mR_5.length = mP_5.length := by decide +kernel
theorem okY_6 : (mR_6.zip mP_6).all (fun q => okY q.1 q.2) = true ∧ mR_6.length = mP_6.length := by decide +kernel
theorem okY_7 : (mR_7.zip mP_7).all (fun q => okY q.1 q.2) = true ∧ mR_7.length = mP_7.length := by decide +kernel
theorem okY_8 : (mR_8.zip mP_8).all (fun q => okY q.1 q.2) = true ∧ mR_8.length = mP_8.length := by decide +kernel
theorem okY_9 : ((mR_9.take 9).zip (mP_9.take 9)).all (fun q => okY q.1 q.2) = true := by decide +kernel
