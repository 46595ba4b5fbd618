/-! WALKS: numbers kept as nI, calls by the number of arguments -/
theorem nI_mul (a b : Nat) : nI a * nI b = nI (a * b) := (Int32.ofNat_mul a b).symm
theorem nI_sub {a b : Nat} (h : b ≤ a) : nI a - nI b = nI (a - b) := by
  have e : a = (a - b) + b := by omega
  have h2 : nI a = nI (a - b) + nI b := by rw [nI_add]; rw [← e]
  rw [h2, Int32.add_sub_cancel]
theorem nI_sub1 {a : Nat} (h : 1 ≤ a) : nI a + (-1) = nI (a - 1) := by
  rw [← nI_sub h, Int32.sub_eq_add_neg]; rfl
theorem nI_div {a b : Nat} (ha : a < 2 ^ 31) (hb : b < 2 ^ 31) : nI a / nI b = nI (a / b) := by
  apply Int32.toInt_inj.mp
  have hq : a / b ≤ a := Nat.div_le_self a b
  rw [Int32.toInt_div, nI_toInt ha, nI_toInt hb, nI_toInt (by omega)]
  rw [← Int.ofNat_tdiv]
  generalize a / b = q at hq ⊢
  apply Int.bmod_eq_of_le <;> omega
theorem nI_rem {a b : Nat} (ha : a < 2 ^ 31) (hb : b < 2 ^ 31) : jrem (nI a) (nI b) = nI (a % b) := by
  unfold jrem
  rw [nI_div ha hb, nI_mul, nI_sub (Nat.div_mul_le_self a b)]
  congr 1
  have := Nat.div_add_mod a b
  rw [Nat.mul_comm] at this
  omega
theorem nar_if {p : Prop} [Decidable p] : narrow .boolean (.int (if p then nI 1 else nI 0)) = .int (if p then nI 1 else nI 0) := by
  by_cases h : p
  · rw [if_pos h]; rfl
  · rw [if_neg h]; rfl
theorem nar_bool {x : Int32} (h : x = nI 0 ∨ x = nI 1) : narrow .boolean (.int x) = .int x := by
  rcases h with rfl | rfl <;> rfl
theorem if01 {p : Prop} [Decidable p] : (if p then nI 1 else nI 0) = 0 ∨ (if p then nI 1 else nI 0) = 1 := by
  by_cases h : p
  · rw [if_pos h]; exact Or.inr rfl
  · rw [if_neg h]; exact Or.inl rfl
section WPN
variable {d : Nat} {F : Lf} {pc pc' k len : Nat} {z : Int} {ts : List Nat} {ls st r : List Value} {t : Lm} {Q : Lo → Lm → Prop}
theorem wp_iaddN {a b : Nat} {x y : Int32} (hc : lc_at pc F.2.2.2.2.2 = some ((4, 0, k, z, ts), len)) (hx : x = nI a) (hy : y = nI b) (hp : pc + len = pc') (kk : WP d F pc' ls (.int (nI (a + b)) :: r) t Q) : WP d F pc ls (.int y :: .int x :: r) t Q := by
  subst hx; subst hy
  exact wp_iadd hc hp (by rw [nI_add]; exact kk)
theorem wp_imulN {a b : Nat} {x y : Int32} (hc : lc_at pc F.2.2.2.2.2 = some ((4, 2, k, z, ts), len)) (hx : x = nI a) (hy : y = nI b) (hp : pc + len = pc') (kk : WP d F pc' ls (.int (nI (a * b)) :: r) t Q) : WP d F pc ls (.int y :: .int x :: r) t Q := by
  subst hx; subst hy
  exact wp_imul hc hp (by rw [nI_mul]; exact kk)
theorem wp_isubN {a b : Nat} {x y : Int32} (hc : lc_at pc F.2.2.2.2.2 = some ((4, 1, k, z, ts), len)) (hx : x = nI a) (hy : y = nI b) (h : b ≤ a) (hp : pc + len = pc') (kk : WP d F pc' ls (.int (nI (a - b)) :: r) t Q) : WP d F pc ls (.int y :: .int x :: r) t Q := by
  subst hx; subst hy
  exact wp_isub hc hp (by rw [nI_sub h]; exact kk)
theorem wp_idivN {a b : Nat} {x y : Int32} (hc : lc_at pc F.2.2.2.2.2 = some ((4, 3, k, z, ts), len)) (hx : x = nI a) (hy : y = nI b) (h0 : 0 < b) (ha : a < 2147483648) (hb : b < 2147483648) (hp : pc + len = pc') (kk : WP d F pc' ls (.int (nI (a / b)) :: r) t Q) : WP d F pc ls (.int y :: .int x :: r) t Q := by
  subst hx; subst hy
  exact wp_idiv hc (nI_ne0 h0 hb) hp (by rw [nI_div ha hb]; exact kk)
theorem wp_iremN {a b : Nat} {x y : Int32} (hc : lc_at pc F.2.2.2.2.2 = some ((4, 4, k, z, ts), len)) (hx : x = nI a) (hy : y = nI b) (h0 : 0 < b) (ha : a < 2147483648) (hb : b < 2147483648) (hp : pc + len = pc') (kk : WP d F pc' ls (.int (nI (a % b)) :: r) t Q) : WP d F pc ls (.int y :: .int x :: r) t Q := by
  subst hx; subst hy
  exact wp_irem hc (nI_ne0 h0 hb) hp (by rw [nI_rem ha hb]; exact kk)
theorem Cont.v {pc pc' : Nat} {v : Value} (h : WP d F pc' ls (v :: r) t Q) : Cont d F pc pc' ls r Q (.inl (some v)) t := h
theorem Cont.u {pc pc' : Nat} (h : WP d F pc' ls r t Q) : Cont d F pc pc' ls r Q (.inl none) t := h
theorem Qv {v v' : Int32} {t t' : Lm} (kk : Q (.inl (some (.int v'))) t') (e : v = v') (e2 : t = t') : Q (.inl (some (.int v))) t := by subst e; subst e2; exact kk
theorem Qu {t t' : Lm} (kk : Q (.inl none) t') (e2 : t = t') : Q (.inl none) t := by subst e2; exact kk
theorem sargs0 (h : Nat.ble r.length 12 = true) : s_args 0 (r) = some ([], r) := by
  unfold s_args
  have h1 : Nat.ble 0 (r).length = true := Nat.ble_eq_true_of_le (by simp)
  have h2 : (r).length - 0 = r.length := by simp
  rw [h1, h2, h]; rfl
theorem wp_callS0 {M b : Nat} (hc : lc_at pc F.2.2.2.2.2 = some ((23, 2, k, z, ts), len)) (hl : F.2.2.2.2.1 k = some (50, M, b)) (hb : b / 10000 = 2) (hn : b / 100 % 100 = 0) (hr : Nat.ble r.length 12 = true) (hp : pc + 3 = pc') (kk : Ok d M [] t (Cont d F pc pc' ls r Q)) : WP d F pc ls (r) t Q :=
  wp_callS hc hl hb (by rw [hn]; exact sargs0 hr) hp kk
theorem sargs1 {x0 : Value} (h : Nat.ble r.length 12 = true) : s_args 1 (x0 :: r) = some ([x0], r) := by
  unfold s_args
  have h1 : Nat.ble 1 (x0 :: r).length = true := Nat.ble_eq_true_of_le (by simp)
  have h2 : (x0 :: r).length - 1 = r.length := by simp
  rw [h1, h2, h]; rfl
theorem wp_callS1 {M b : Nat} {x0 : Value} (hc : lc_at pc F.2.2.2.2.2 = some ((23, 2, k, z, ts), len)) (hl : F.2.2.2.2.1 k = some (50, M, b)) (hb : b / 10000 = 2) (hn : b / 100 % 100 = 1) (hr : Nat.ble r.length 12 = true) (hp : pc + 3 = pc') (kk : Ok d M [x0] t (Cont d F pc pc' ls r Q)) : WP d F pc ls (x0 :: r) t Q :=
  wp_callS hc hl hb (by rw [hn]; exact sargs1 hr) hp kk
theorem sargs2 {x0 x1 : Value} (h : Nat.ble r.length 12 = true) : s_args 2 (x1 :: x0 :: r) = some ([x0, x1], r) := by
  unfold s_args
  have h1 : Nat.ble 2 (x1 :: x0 :: r).length = true := Nat.ble_eq_true_of_le (by simp)
  have h2 : (x1 :: x0 :: r).length - 2 = r.length := by simp
  rw [h1, h2, h]; rfl
theorem wp_callS2 {M b : Nat} {x0 x1 : Value} (hc : lc_at pc F.2.2.2.2.2 = some ((23, 2, k, z, ts), len)) (hl : F.2.2.2.2.1 k = some (50, M, b)) (hb : b / 10000 = 2) (hn : b / 100 % 100 = 2) (hr : Nat.ble r.length 12 = true) (hp : pc + 3 = pc') (kk : Ok d M [x0, x1] t (Cont d F pc pc' ls r Q)) : WP d F pc ls (x1 :: x0 :: r) t Q :=
  wp_callS hc hl hb (by rw [hn]; exact sargs2 hr) hp kk
theorem sargs3 {x0 x1 x2 : Value} (h : Nat.ble r.length 12 = true) : s_args 3 (x2 :: x1 :: x0 :: r) = some ([x0, x1, x2], r) := by
  unfold s_args
  have h1 : Nat.ble 3 (x2 :: x1 :: x0 :: r).length = true := Nat.ble_eq_true_of_le (by simp)
  have h2 : (x2 :: x1 :: x0 :: r).length - 3 = r.length := by simp
  rw [h1, h2, h]; rfl
theorem wp_callS3 {M b : Nat} {x0 x1 x2 : Value} (hc : lc_at pc F.2.2.2.2.2 = some ((23, 2, k, z, ts), len)) (hl : F.2.2.2.2.1 k = some (50, M, b)) (hb : b / 10000 = 2) (hn : b / 100 % 100 = 3) (hr : Nat.ble r.length 12 = true) (hp : pc + 3 = pc') (kk : Ok d M [x0, x1, x2] t (Cont d F pc pc' ls r Q)) : WP d F pc ls (x2 :: x1 :: x0 :: r) t Q :=
  wp_callS hc hl hb (by rw [hn]; exact sargs3 hr) hp kk
theorem sargs4 {x0 x1 x2 x3 : Value} (h : Nat.ble r.length 12 = true) : s_args 4 (x3 :: x2 :: x1 :: x0 :: r) = some ([x0, x1, x2, x3], r) := by
  unfold s_args
  have h1 : Nat.ble 4 (x3 :: x2 :: x1 :: x0 :: r).length = true := Nat.ble_eq_true_of_le (by simp)
  have h2 : (x3 :: x2 :: x1 :: x0 :: r).length - 4 = r.length := by simp
  rw [h1, h2, h]; rfl
theorem wp_callS4 {M b : Nat} {x0 x1 x2 x3 : Value} (hc : lc_at pc F.2.2.2.2.2 = some ((23, 2, k, z, ts), len)) (hl : F.2.2.2.2.1 k = some (50, M, b)) (hb : b / 10000 = 2) (hn : b / 100 % 100 = 4) (hr : Nat.ble r.length 12 = true) (hp : pc + 3 = pc') (kk : Ok d M [x0, x1, x2, x3] t (Cont d F pc pc' ls r Q)) : WP d F pc ls (x3 :: x2 :: x1 :: x0 :: r) t Q :=
  wp_callS hc hl hb (by rw [hn]; exact sargs4 hr) hp kk
theorem sargs5 {x0 x1 x2 x3 x4 : Value} (h : Nat.ble r.length 12 = true) : s_args 5 (x4 :: x3 :: x2 :: x1 :: x0 :: r) = some ([x0, x1, x2, x3, x4], r) := by
  unfold s_args
  have h1 : Nat.ble 5 (x4 :: x3 :: x2 :: x1 :: x0 :: r).length = true := Nat.ble_eq_true_of_le (by simp)
  have h2 : (x4 :: x3 :: x2 :: x1 :: x0 :: r).length - 5 = r.length := by simp
  rw [h1, h2, h]; rfl
theorem wp_callS5 {M b : Nat} {x0 x1 x2 x3 x4 : Value} (hc : lc_at pc F.2.2.2.2.2 = some ((23, 2, k, z, ts), len)) (hl : F.2.2.2.2.1 k = some (50, M, b)) (hb : b / 10000 = 2) (hn : b / 100 % 100 = 5) (hr : Nat.ble r.length 12 = true) (hp : pc + 3 = pc') (kk : Ok d M [x0, x1, x2, x3, x4] t (Cont d F pc pc' ls r Q)) : WP d F pc ls (x4 :: x3 :: x2 :: x1 :: x0 :: r) t Q :=
  wp_callS hc hl hb (by rw [hn]; exact sargs5 hr) hp kk
theorem sargs6 {x0 x1 x2 x3 x4 x5 : Value} (h : Nat.ble r.length 12 = true) : s_args 6 (x5 :: x4 :: x3 :: x2 :: x1 :: x0 :: r) = some ([x0, x1, x2, x3, x4, x5], r) := by
  unfold s_args
  have h1 : Nat.ble 6 (x5 :: x4 :: x3 :: x2 :: x1 :: x0 :: r).length = true := Nat.ble_eq_true_of_le (by simp)
  have h2 : (x5 :: x4 :: x3 :: x2 :: x1 :: x0 :: r).length - 6 = r.length := by simp
  rw [h1, h2, h]; rfl
theorem wp_callS6 {M b : Nat} {x0 x1 x2 x3 x4 x5 : Value} (hc : lc_at pc F.2.2.2.2.2 = some ((23, 2, k, z, ts), len)) (hl : F.2.2.2.2.1 k = some (50, M, b)) (hb : b / 10000 = 2) (hn : b / 100 % 100 = 6) (hr : Nat.ble r.length 12 = true) (hp : pc + 3 = pc') (kk : Ok d M [x0, x1, x2, x3, x4, x5] t (Cont d F pc pc' ls r Q)) : WP d F pc ls (x5 :: x4 :: x3 :: x2 :: x1 :: x0 :: r) t Q :=
  wp_callS hc hl hb (by rw [hn]; exact sargs6 hr) hp kk
theorem wp_callV1 {M b a ci : Nat} (hc : lc_at pc F.2.2.2.2.2 = some ((23, 0, k, z, ts), len)) (hl : F.2.2.2.2.1 k = some (50, M, b)) (hb : b / 10000 = 0) (hn : b / 100 % 100 = 1) (hci : b % 100 = ci) (hk : (lmK t a).1 = ci) (hr : Nat.ble r.length 12 = true) (hp : pc + 3 = pc') (kk : Ok d M [.ref a] t (Cont d F pc pc' ls r Q)) : WP d F pc ls (.ref a :: r) t Q :=
  wp_callV hc hl hb (by rw [hn]; exact sargs1 hr) hci hk hp kk
theorem wp_callI1 {M b a ci : Nat} (hc : lc_at pc F.2.2.2.2.2 = some ((23, 1, k, z, ts), len)) (hl : F.2.2.2.2.1 k = some (50, M, b)) (hb : b / 10000 = 1) (hn : b / 100 % 100 = 1) (hci : b % 100 = ci) (hk : (lmK t a).1 = ci) (hr : Nat.ble r.length 12 = true) (hp : pc + 3 = pc') (kk : Ok d M [.ref a] t (Cont d F pc pc' ls r Q)) : WP d F pc ls (.ref a :: r) t Q :=
  wp_callI hc hl hb (by rw [hn]; exact sargs1 hr) hci hk hp kk
theorem wp_callV2 {M b a ci : Nat} {x1 : Value} (hc : lc_at pc F.2.2.2.2.2 = some ((23, 0, k, z, ts), len)) (hl : F.2.2.2.2.1 k = some (50, M, b)) (hb : b / 10000 = 0) (hn : b / 100 % 100 = 2) (hci : b % 100 = ci) (hk : (lmK t a).1 = ci) (hr : Nat.ble r.length 12 = true) (hp : pc + 3 = pc') (kk : Ok d M [.ref a, x1] t (Cont d F pc pc' ls r Q)) : WP d F pc ls (x1 :: .ref a :: r) t Q :=
  wp_callV hc hl hb (by rw [hn]; exact sargs2 hr) hci hk hp kk
theorem wp_callI2 {M b a ci : Nat} {x1 : Value} (hc : lc_at pc F.2.2.2.2.2 = some ((23, 1, k, z, ts), len)) (hl : F.2.2.2.2.1 k = some (50, M, b)) (hb : b / 10000 = 1) (hn : b / 100 % 100 = 2) (hci : b % 100 = ci) (hk : (lmK t a).1 = ci) (hr : Nat.ble r.length 12 = true) (hp : pc + 3 = pc') (kk : Ok d M [.ref a, x1] t (Cont d F pc pc' ls r Q)) : WP d F pc ls (x1 :: .ref a :: r) t Q :=
  wp_callI hc hl hb (by rw [hn]; exact sargs2 hr) hci hk hp kk
theorem wp_callV3 {M b a ci : Nat} {x1 x2 : Value} (hc : lc_at pc F.2.2.2.2.2 = some ((23, 0, k, z, ts), len)) (hl : F.2.2.2.2.1 k = some (50, M, b)) (hb : b / 10000 = 0) (hn : b / 100 % 100 = 3) (hci : b % 100 = ci) (hk : (lmK t a).1 = ci) (hr : Nat.ble r.length 12 = true) (hp : pc + 3 = pc') (kk : Ok d M [.ref a, x1, x2] t (Cont d F pc pc' ls r Q)) : WP d F pc ls (x2 :: x1 :: .ref a :: r) t Q :=
  wp_callV hc hl hb (by rw [hn]; exact sargs3 hr) hci hk hp kk
theorem wp_callI3 {M b a ci : Nat} {x1 x2 : Value} (hc : lc_at pc F.2.2.2.2.2 = some ((23, 1, k, z, ts), len)) (hl : F.2.2.2.2.1 k = some (50, M, b)) (hb : b / 10000 = 1) (hn : b / 100 % 100 = 3) (hci : b % 100 = ci) (hk : (lmK t a).1 = ci) (hr : Nat.ble r.length 12 = true) (hp : pc + 3 = pc') (kk : Ok d M [.ref a, x1, x2] t (Cont d F pc pc' ls r Q)) : WP d F pc ls (x2 :: x1 :: .ref a :: r) t Q :=
  wp_callI hc hl hb (by rw [hn]; exact sargs3 hr) hci hk hp kk
theorem wp_callV4 {M b a ci : Nat} {x1 x2 x3 : Value} (hc : lc_at pc F.2.2.2.2.2 = some ((23, 0, k, z, ts), len)) (hl : F.2.2.2.2.1 k = some (50, M, b)) (hb : b / 10000 = 0) (hn : b / 100 % 100 = 4) (hci : b % 100 = ci) (hk : (lmK t a).1 = ci) (hr : Nat.ble r.length 12 = true) (hp : pc + 3 = pc') (kk : Ok d M [.ref a, x1, x2, x3] t (Cont d F pc pc' ls r Q)) : WP d F pc ls (x3 :: x2 :: x1 :: .ref a :: r) t Q :=
  wp_callV hc hl hb (by rw [hn]; exact sargs4 hr) hci hk hp kk
theorem wp_callI4 {M b a ci : Nat} {x1 x2 x3 : Value} (hc : lc_at pc F.2.2.2.2.2 = some ((23, 1, k, z, ts), len)) (hl : F.2.2.2.2.1 k = some (50, M, b)) (hb : b / 10000 = 1) (hn : b / 100 % 100 = 4) (hci : b % 100 = ci) (hk : (lmK t a).1 = ci) (hr : Nat.ble r.length 12 = true) (hp : pc + 3 = pc') (kk : Ok d M [.ref a, x1, x2, x3] t (Cont d F pc pc' ls r Q)) : WP d F pc ls (x3 :: x2 :: x1 :: .ref a :: r) t Q :=
  wp_callI hc hl hb (by rw [hn]; exact sargs4 hr) hci hk hp kk
theorem wp_callV5 {M b a ci : Nat} {x1 x2 x3 x4 : Value} (hc : lc_at pc F.2.2.2.2.2 = some ((23, 0, k, z, ts), len)) (hl : F.2.2.2.2.1 k = some (50, M, b)) (hb : b / 10000 = 0) (hn : b / 100 % 100 = 5) (hci : b % 100 = ci) (hk : (lmK t a).1 = ci) (hr : Nat.ble r.length 12 = true) (hp : pc + 3 = pc') (kk : Ok d M [.ref a, x1, x2, x3, x4] t (Cont d F pc pc' ls r Q)) : WP d F pc ls (x4 :: x3 :: x2 :: x1 :: .ref a :: r) t Q :=
  wp_callV hc hl hb (by rw [hn]; exact sargs5 hr) hci hk hp kk
theorem wp_callI5 {M b a ci : Nat} {x1 x2 x3 x4 : Value} (hc : lc_at pc F.2.2.2.2.2 = some ((23, 1, k, z, ts), len)) (hl : F.2.2.2.2.1 k = some (50, M, b)) (hb : b / 10000 = 1) (hn : b / 100 % 100 = 5) (hci : b % 100 = ci) (hk : (lmK t a).1 = ci) (hr : Nat.ble r.length 12 = true) (hp : pc + 3 = pc') (kk : Ok d M [.ref a, x1, x2, x3, x4] t (Cont d F pc pc' ls r Q)) : WP d F pc ls (x4 :: x3 :: x2 :: x1 :: .ref a :: r) t Q :=
  wp_callI hc hl hb (by rw [hn]; exact sargs5 hr) hci hk hp kk
theorem wp_callV6 {M b a ci : Nat} {x1 x2 x3 x4 x5 : Value} (hc : lc_at pc F.2.2.2.2.2 = some ((23, 0, k, z, ts), len)) (hl : F.2.2.2.2.1 k = some (50, M, b)) (hb : b / 10000 = 0) (hn : b / 100 % 100 = 6) (hci : b % 100 = ci) (hk : (lmK t a).1 = ci) (hr : Nat.ble r.length 12 = true) (hp : pc + 3 = pc') (kk : Ok d M [.ref a, x1, x2, x3, x4, x5] t (Cont d F pc pc' ls r Q)) : WP d F pc ls (x5 :: x4 :: x3 :: x2 :: x1 :: .ref a :: r) t Q :=
  wp_callV hc hl hb (by rw [hn]; exact sargs6 hr) hci hk hp kk
theorem wp_callI6 {M b a ci : Nat} {x1 x2 x3 x4 x5 : Value} (hc : lc_at pc F.2.2.2.2.2 = some ((23, 1, k, z, ts), len)) (hl : F.2.2.2.2.1 k = some (50, M, b)) (hb : b / 10000 = 1) (hn : b / 100 % 100 = 6) (hci : b % 100 = ci) (hk : (lmK t a).1 = ci) (hr : Nat.ble r.length 12 = true) (hp : pc + 3 = pc') (kk : Ok d M [.ref a, x1, x2, x3, x4, x5] t (Cont d F pc pc' ls r Q)) : WP d F pc ls (x5 :: x4 :: x3 :: x2 :: x1 :: .ref a :: r) t Q :=
  wp_callI hc hl hb (by rw [hn]; exact sargs6 hr) hci hk hp kk
end WPN
