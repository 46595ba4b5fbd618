/-! CONSTRUCTORS -/
section
variable {d : Nat} {F : Lf} {pc pc' k len : Nat} {z : Int} {ts : List Nat} {ls r st : List Value} {Q : Lo → Lm → Prop} {K : Nat → Nat × Nat} {I : Mem} {L : Nat → Nat → Int64} {R : Nat → Nat → Option Nat} {n s : Nat}
theorem wp_nwA {w ki c : Nat} (m : Nat) (hc : lc_at pc F.2.2.2.2.2 = some ((19, 0, c, z, ts), len)) (hki : s_newa c = some ki) (hw : w ≤ 65536) (hf : n + 1 ≤ lmCells) (hs : s + w ≤ lmSlots) (hm : n + 1 = m) (hp : pc + len = pc') (kk : WP d F pc' ls (.ref n :: r) (up1 K n (ki, w), upr I n (fun _ => 0), upr L n (fun _ => 0), upr R n (fun _ => none), m, s + w) Q) : WP d F pc ls (.int (nI w) :: r) (K, I, L, R, n, s) Q := by
  subst hm; exact wp_newa hc hki hw hf hs hp kk
theorem wp_nwN {ci w : Nat} (m : Nat) (hc : lc_at pc F.2.2.2.2.2 = some ((20, 0, k, z, ts), len)) (hl : F.2.2.2.2.1 k = some (60, ci, w)) (hf : n + 1 ≤ lmCells) (hs : s + w ≤ lmSlots) (hm : n + 1 = m) (hp : pc + len = pc') (kk : WP d F pc' ls (.ref n :: st) (up1 K n (ci, 0), upr I n (fun _ => 0), upr L n (fun _ => 0), upr R n (fun _ => none), m, s + w) Q) : WP d F pc ls st (K, I, L, R, n, s) Q := by
  subst hm; exact wp_new hc hl hf hs hp kk
theorem wp_nwO {w u : Nat} (m : Nat) (hc : lc_at pc F.2.2.2.2.2 = some ((21, 0, k, z, ts), len)) (hl : F.2.2.2.2.1 k = some (60, 2, u)) (hw : w ≤ 65536) (hf : n + 1 ≤ lmCells) (hs : s + w ≤ lmSlots) (hm : n + 1 = m) (hp : pc + len = pc') (kk : WP d F pc' ls (.ref n :: r) (up1 K n (54, w), upr I n (fun _ => 0), upr L n (fun _ => 0), upr R n (fun _ => none), m, s + w) Q) : WP d F pc ls (.int (nI w) :: r) (K, I, L, R, n, s) Q := by
  subst hm; exact wp_anewa hc hl hw hf hs hp kk
def mK (K : Nat → Nat × Nat) (n w y : Nat) : Nat → Nat × Nat := fun i => if i = n then (55, w) else if n < i ∧ i ≤ n + w then (50, y) else K i
def mI (I : Mem) (n w : Nat) : Mem := fun i => if n ≤ i ∧ i ≤ n + w then fun _ => 0 else I i
def mL (L : Nat → Nat → Int64) (n w : Nat) : Nat → Nat → Int64 := fun i => if n ≤ i ∧ i ≤ n + w then fun _ => 0 else L i
def mR (R : Nat → Nat → Option Nat) (n w : Nat) : Nat → Nat → Option Nat := fun i => if i = n then fun j => if j < w then some (n + 1 + j) else none else if n < i ∧ i ≤ n + w then fun _ => none else R i
theorem wp_nwM {w y u v : Nat} (m : Nat) (hc : lc_at pc F.2.2.2.2.2 = some ((22, 0, k, z, ts), len)) (hl : F.2.2.2.2.1 k = some (62, u, v)) (hw : w ≤ 65536) (hy : y ≤ 65536) (hf : n + (1 + w) ≤ lmCells) (hs : s + (w + w * y) ≤ lmSlots) (hm : n + 1 + w = m) (hp : pc + len = pc') (kk : WP d F pc' ls (.ref n :: r) (mK K n w y, mI I n w, mL L n w, mR R n w, m, s + (w + w * y)) Q) : WP d F pc ls (.int (nI y) :: .int (nI w) :: r) (K, I, L, R, n, s) Q := by
  subst hm; exact wp_multi hc hl hw hy hf hs hp kk
end
/-- a block of m new cells -/
def NwC (b m : Nat) (kf : Nat → Nat × Nat) (jf : Nat → Nat → Int32) (rf : Nat → Nat → Option Nat) (K : Nat → Nat × Nat) (I : Mem) (L : Nat → Nat → Int64) (R : Nat → Nat → Option Nat) (K2 : Nat → Nat × Nat) (I2 : Mem) (L2 : Nat → Nat → Int64) (R2 : Nat → Nat → Option Nat) : Prop :=
  (∀ a, (a < b ∨ b + m ≤ a) → K2 a = K a ∧ I2 a = I a ∧ L2 a = L a ∧ R2 a = R a) ∧ ∀ k, k < m → K2 (b + k) = kf k ∧ (∀ j, I2 (b + k) j = jf k j) ∧ ∀ j, R2 (b + k) j = rf k j
theorem nI_z0 : nI 0 = (0 : Int32) := rfl
theorem nI_z1 : nI 1 = (1 : Int32) := rfl
theorem nI_z5 : nI 5 = (5 : Int32) := rfl
def iS (k j : Nat) : Int32 := if k = 0 then (if j = 12 then 5 else if j = 16 then 1 else 0) else if k = 2 then (if j < 25 then 5 else 0) else 0
def kS (k : Nat) : Nat × Nat := (k0s k).getD (0, 0)

theorem mK_o {K : Nat → Nat × Nat} {n w y a : Nat} (h : a < n ∨ n + w < a) : mK K n w y a = K a := by unfold mK; rw [if_neg (by omega), if_neg (by omega)]
theorem mK_n {K : Nat → Nat × Nat} {n w y : Nat} : mK K n w y n = (55, w) := by unfold mK; rw [if_pos rfl]
theorem mK_r {K : Nat → Nat × Nat} {n w y a : Nat} (h : n < a) (h2 : a ≤ n + w) : mK K n w y a = (50, y) := by unfold mK; rw [if_neg (by omega), if_pos ⟨h, h2⟩]
theorem mI_o {I : Mem} {n w a : Nat} (h : a < n ∨ n + w < a) : mI I n w a = I a := by unfold mI; rw [if_neg (by omega)]
theorem mI_r {I : Mem} {n w a : Nat} (h : n ≤ a) (h2 : a ≤ n + w) : mI I n w a = fun _ => 0 := by unfold mI; rw [if_pos ⟨h, h2⟩]
theorem mL_o {L : Nat → Nat → Int64} {n w a : Nat} (h : a < n ∨ n + w < a) : mL L n w a = L a := by unfold mL; rw [if_neg (by omega)]
theorem mR_o {R : Nat → Nat → Option Nat} {n w a : Nat} (h : a < n ∨ n + w < a) : mR R n w a = R a := by unfold mR; rw [if_neg (by omega), if_neg (by omega)]
theorem mR_n {R : Nat → Nat → Option Nat} {n w : Nat} : mR R n w n = fun j => if j < w then some (n + 1 + j) else none := by unfold mR; rw [if_pos rfl]
theorem mR_r {R : Nat → Nat → Option Nat} {n w a : Nat} (h : n < a) (h2 : a ≤ n + w) : mR R n w a = fun _ => none := by unfold mR; rw [if_neg (by omega), if_pos ⟨h, h2⟩]
theorem upr_x {α : Type} {f : Nat → Nat → α} {a i : Nat} {g : Nat → α} (h : i ≠ a) : upr f a g i = f i := by unfold upr; rw [if_neg h]
theorem upr_y {α : Type} {f : Nat → Nat → α} {a : Nat} {g : Nat → α} : upr f a g a = g := by unfold upr; rw [if_pos rfl]
theorem up1_x {α : Type} {f : Nat → α} {a i : Nat} {v : α} (h : i ≠ a) : up1 f a v i = f i := by unfold up1; rw [if_neg h]
theorem up1_y {α : Type} {f : Nat → α} {a : Nat} {v : α} : up1 f a v a = v := by unfold up1; rw [if_pos rfl]

theorem c_logI {d : Nat} {K : Nat → Nat × Nat} {I : Nat → Nat → Int32} {L : Nat → Nat → Int64} {R : Nat → Nat → Option Nat} {s : Nat} {Q : Lo → Lm → Prop} {b : Nat}  (hK : (K b).1 = 3) (hf : b + 2 ≤ lmCells) (hs : s + 300 ≤ lmSlots) (kk : Q (.inl none) (up1 K (b + 1) (50, 300), up2 (up2 (upr I (b + 1) (fun _ => 0)) b 1 0) b 2 0, upr L (b + 1) (fun _ => 0), up2 (upr R (b + 1) (fun _ => none)) b 0 (some (b + 1)), b + 2, s + 300)) : Ok (d + 1) 2 [.ref b] (K, I, L, R, b + 1, s) Q := by
  refine Ok.enter (F := F_2) (ls := [.ref b]) rfl rfl ?_
  refine wp_aload0 (pc' := 1) rfl rfl ?_
  refine wp_obj (pc' := 4) rfl rfl rfl rfl ?_
  refine wp_aload0 (pc' := 5) rfl rfl ?_
  refine wp_sipush (v := nI 300) (pc' := 8) rfl rfl rfl ?_
  refine wp_nwA (w := 300) (ki := 50) (pc' := 10) (b + 2) rfl rfl (by decide) (by omega) (by omega) rfl rfl ?_
  refine wp_putRF (pc' := 13) rfl rfl (by first | (simp [up1]; done) | (simp [lmK, up1]; done) | (rw [mK_o (by omega)]; simp [up1]; done) | (rw [up1_x (by omega), mK_o (by omega)]; simp [up1]; done) | (simp [lmK, up1, *]; done)) (by omega) rfl rfl rfl ?_
  refine wp_aload0 (pc' := 14) rfl rfl ?_
  refine wp_iconst (v := nI 0) (pc' := 15) rfl rfl rfl ?_
  refine wp_putI (pc' := 18) rfl rfl (by first | (simp [up1]; done) | (simp [lmK, up1]; done) | (rw [mK_o (by omega)]; simp [up1]; done) | (rw [up1_x (by omega), mK_o (by omega)]; simp [up1]; done) | (simp [lmK, up1, *]; done)) (by omega) rfl ?_
  refine wp_aload0 (pc' := 19) rfl rfl ?_
  refine wp_iconst (v := nI 0) (pc' := 20) rfl rfl rfl ?_
  refine wp_putI (pc' := 23) rfl rfl (by first | (simp [up1]; done) | (simp [lmK, up1]; done) | (rw [mK_o (by omega)]; simp [up1]; done) | (rw [up1_x (by omega), mK_o (by omega)]; simp [up1]; done) | (simp [lmK, up1, *]; done)) (by omega) rfl ?_
  refine wp_vret rfl rfl ?_
  exact kk
theorem c_stI {d : Nat} {K : Nat → Nat × Nat} {I : Nat → Nat → Int32} {L : Nat → Nat → Int64} {R : Nat → Nat → Option Nat} {s : Nat} {Q : Lo → Lm → Prop} {b : Nat} (hf : b + 14 ≤ lmCells) (hs : s + 1000 ≤ lmSlots) (kk : ∀ K2 I2 L2 R2, NwC b 12 kS iS (r0s b) K I L R K2 I2 L2 R2 → Q (.inl none) (K2, I2, L2, R2, b + 12, s + 452)) : Ok (d + 3) 1 [.ref b] (up1 K b (2, 0), upr I b (fun _ => 0), upr L b (fun _ => 0), upr R b (fun _ => none), b + 1, s) Q := by
  refine Ok.enter (F := F_1) (ls := [.ref b]) rfl rfl ?_
  refine wp_aload0 (pc' := 1) rfl rfl ?_
  refine wp_obj (pc' := 4) rfl rfl rfl rfl ?_
  refine wp_aload0 (pc' := 5) rfl rfl ?_
  refine wp_bipush (v := nI 25) (pc' := 7) rfl rfl rfl ?_
  refine wp_nwA (w := 25) (ki := 50) (pc' := 9) (b + 2) rfl rfl (by decide) (by omega) (by omega) rfl rfl ?_
  refine wp_putRF (pc' := 12) rfl rfl (by first | (simp [up1]; done) | (simp [lmK, up1]; done) | (rw [mK_o (by omega)]; simp [up1]; done) | (rw [up1_x (by omega), mK_o (by omega)]; simp [up1]; done) | (simp [lmK, up1, *]; done)) (by omega) rfl rfl rfl ?_
  refine wp_aload0 (pc' := 13) rfl rfl ?_
  refine wp_bipush (v := nI 25) (pc' := 15) rfl rfl rfl ?_
  refine wp_nwA (w := 25) (ki := 50) (pc' := 17) (b + 3) rfl rfl (by decide) (by omega) (by omega) rfl rfl ?_
  refine wp_putRF (pc' := 20) rfl rfl (by first | (simp [up1]; done) | (simp [lmK, up1]; done) | (rw [mK_o (by omega)]; simp [up1]; done) | (rw [up1_x (by omega), mK_o (by omega)]; simp [up1]; done) | (simp [lmK, up1, *]; done)) (by omega) rfl rfl rfl ?_
  refine wp_aload0 (pc' := 21) rfl rfl ?_
  refine wp_bipush (v := nI 25) (pc' := 23) rfl rfl rfl ?_
  refine wp_nwA (w := 25) (ki := 50) (pc' := 25) (b + 4) rfl rfl (by decide) (by omega) (by omega) rfl rfl ?_
  refine wp_putRF (pc' := 28) rfl rfl (by first | (simp [up1]; done) | (simp [lmK, up1]; done) | (rw [mK_o (by omega)]; simp [up1]; done) | (rw [up1_x (by omega), mK_o (by omega)]; simp [up1]; done) | (simp [lmK, up1, *]; done)) (by omega) rfl rfl rfl ?_
  refine wp_aload0 (pc' := 29) rfl rfl ?_
  refine wp_bipush (v := nI 25) (pc' := 31) rfl rfl rfl ?_
  refine wp_nwA (w := 25) (ki := 50) (pc' := 33) (b + 5) rfl rfl (by decide) (by omega) (by omega) rfl rfl ?_
  refine wp_putRF (pc' := 36) rfl rfl (by first | (simp [up1]; done) | (simp [lmK, up1]; done) | (rw [mK_o (by omega)]; simp [up1]; done) | (rw [up1_x (by omega), mK_o (by omega)]; simp [up1]; done) | (simp [lmK, up1, *]; done)) (by omega) rfl rfl rfl ?_
  refine wp_aload0 (pc' := 37) rfl rfl ?_
  refine wp_bipush (v := nI 25) (pc' := 39) rfl rfl rfl ?_
  refine wp_nwA (w := 25) (ki := 50) (pc' := 41) (b + 6) rfl rfl (by decide) (by omega) (by omega) rfl rfl ?_
  refine wp_putRF (pc' := 44) rfl rfl (by first | (simp [up1]; done) | (simp [lmK, up1]; done) | (rw [mK_o (by omega)]; simp [up1]; done) | (rw [up1_x (by omega), mK_o (by omega)]; simp [up1]; done) | (simp [lmK, up1, *]; done)) (by omega) rfl rfl rfl ?_
  refine wp_aload0 (pc' := 45) rfl rfl ?_
  refine wp_bipush (v := nI 6) (pc' := 47) rfl rfl rfl ?_
  refine wp_nwA (w := 6) (ki := 50) (pc' := 49) (b + 7) rfl rfl (by decide) (by omega) (by omega) rfl rfl ?_
  refine wp_putRF (pc' := 52) rfl rfl (by first | (simp [up1]; done) | (simp [lmK, up1]; done) | (rw [mK_o (by omega)]; simp [up1]; done) | (rw [up1_x (by omega), mK_o (by omega)]; simp [up1]; done) | (simp [lmK, up1, *]; done)) (by omega) rfl rfl rfl ?_
  refine wp_aload0 (pc' := 53) rfl rfl ?_
  refine wp_bipush (v := nI 6) (pc' := 55) rfl rfl rfl ?_
  refine wp_nwA (w := 6) (ki := 50) (pc' := 57) (b + 8) rfl rfl (by decide) (by omega) (by omega) rfl rfl ?_
  refine wp_putRF (pc' := 60) rfl rfl (by first | (simp [up1]; done) | (simp [lmK, up1]; done) | (rw [mK_o (by omega)]; simp [up1]; done) | (rw [up1_x (by omega), mK_o (by omega)]; simp [up1]; done) | (simp [lmK, up1, *]; done)) (by omega) rfl rfl rfl ?_
  refine wp_aload0 (pc' := 61) rfl rfl ?_
  refine wp_bipush (v := nI 6) (pc' := 63) rfl rfl rfl ?_
  refine wp_nwA (w := 6) (ki := 50) (pc' := 65) (b + 9) rfl rfl (by decide) (by omega) (by omega) rfl rfl ?_
  refine wp_putRF (pc' := 68) rfl rfl (by first | (simp [up1]; done) | (simp [lmK, up1]; done) | (rw [mK_o (by omega)]; simp [up1]; done) | (rw [up1_x (by omega), mK_o (by omega)]; simp [up1]; done) | (simp [lmK, up1, *]; done)) (by omega) rfl rfl rfl ?_
  refine wp_aload0 (pc' := 69) rfl rfl ?_
  refine wp_bipush (v := nI 6) (pc' := 71) rfl rfl rfl ?_
  refine wp_nwA (w := 6) (ki := 50) (pc' := 73) (b + 10) rfl rfl (by decide) (by omega) (by omega) rfl rfl ?_
  refine wp_putRF (pc' := 76) rfl rfl (by first | (simp [up1]; done) | (simp [lmK, up1]; done) | (rw [mK_o (by omega)]; simp [up1]; done) | (rw [up1_x (by omega), mK_o (by omega)]; simp [up1]; done) | (simp [lmK, up1, *]; done)) (by omega) rfl rfl rfl ?_
  refine wp_aload0 (pc' := 77) rfl rfl ?_
  refine wp_nwN (ci := 3) (w := 3) (pc' := 80) (b + 11) rfl rfl (by omega) (by omega) rfl rfl ?_
  refine wp_dup (pc' := 81) rfl rfl rfl ?_
  refine wp_callI1 (pc' := 84) rfl rfl rfl rfl rfl (by first | (simp [up1]; done) | (simp [lmK, up1]; done) | (rw [mK_o (by omega)]; simp [up1]; done) | (rw [up1_x (by omega), mK_o (by omega)]; simp [up1]; done) | (simp [lmK, up1, *]; done)) rfl rfl ?_
  refine c_logI (b := b + 10) (by first | (simp [up1]; done) | (simp [lmK, up1]; done) | (rw [mK_o (by omega)]; simp [up1]; done) | (rw [up1_x (by omega), mK_o (by omega)]; simp [up1]; done) | (simp [lmK, up1, *]; done)) (by omega) (by omega) ?_
  rw [show b + 10 + 1 = b + 11 from rfl, show b + 10 + 2 = b + 12 from rfl]
  refine Cont.u ?_
  refine wp_putRF (pc' := 87) rfl rfl (by first | (simp [up1]; done) | (simp [lmK, up1]; done) | (rw [mK_o (by omega)]; simp [up1]; done) | (rw [up1_x (by omega), mK_o (by omega)]; simp [up1]; done) | (simp [lmK, up1, *]; done)) (by omega) rfl rfl rfl ?_
  refine wp_aload0 (pc' := 88) rfl rfl ?_
  refine wp_iconst (v := nI 0) (pc' := 89) rfl rfl rfl ?_
  refine wp_putI (pc' := 92) rfl rfl (by first | (simp [up1]; done) | (simp [lmK, up1]; done) | (rw [mK_o (by omega)]; simp [up1]; done) | (rw [up1_x (by omega), mK_o (by omega)]; simp [up1]; done) | (simp [lmK, up1, *]; done)) (by omega) rfl ?_
  refine wp_aload0 (pc' := 93) rfl rfl ?_
  refine wp_iconst (v := nI 0) (pc' := 94) rfl rfl rfl ?_
  refine wp_putI (pc' := 97) rfl rfl (by first | (simp [up1]; done) | (simp [lmK, up1]; done) | (rw [mK_o (by omega)]; simp [up1]; done) | (rw [up1_x (by omega), mK_o (by omega)]; simp [up1]; done) | (simp [lmK, up1, *]; done)) (by omega) rfl ?_
  refine wp_aload0 (pc' := 98) rfl rfl ?_
  refine wp_iconst (v := nI 5) (pc' := 99) rfl rfl rfl ?_
  refine wp_putI (pc' := 102) rfl rfl (by first | (simp [up1]; done) | (simp [lmK, up1]; done) | (rw [mK_o (by omega)]; simp [up1]; done) | (rw [up1_x (by omega), mK_o (by omega)]; simp [up1]; done) | (simp [lmK, up1, *]; done)) (by omega) rfl ?_
  refine wp_aload0 (pc' := 103) rfl rfl ?_
  refine wp_iconst (v := nI 0) (pc' := 104) rfl rfl rfl ?_
  refine wp_putI (pc' := 107) rfl rfl (by first | (simp [up1]; done) | (simp [lmK, up1]; done) | (rw [mK_o (by omega)]; simp [up1]; done) | (rw [up1_x (by omega), mK_o (by omega)]; simp [up1]; done) | (simp [lmK, up1, *]; done)) (by omega) rfl ?_
  refine wp_aload0 (pc' := 108) rfl rfl ?_
  refine wp_iconst (v := nI 0) (pc' := 109) rfl rfl rfl ?_
  refine wp_putZ (pc' := 112) rfl rfl (by first | (simp [up1]; done) | (simp [lmK, up1]; done) | (rw [mK_o (by omega)]; simp [up1]; done) | (rw [up1_x (by omega), mK_o (by omega)]; simp [up1]; done) | (simp [lmK, up1, *]; done)) (by omega) (by first | exact Or.inl rfl | exact Or.inr rfl) rfl ?_
  refine wp_aload0 (pc' := 113) rfl rfl ?_
  refine wp_iconst (v := nI 0) (pc' := 114) rfl rfl rfl ?_
  refine wp_putI (pc' := 117) rfl rfl (by first | (simp [up1]; done) | (simp [lmK, up1]; done) | (rw [mK_o (by omega)]; simp [up1]; done) | (rw [up1_x (by omega), mK_o (by omega)]; simp [up1]; done) | (simp [lmK, up1, *]; done)) (by omega) rfl ?_
  refine wp_aload0 (pc' := 118) rfl rfl ?_
  refine wp_iconst (v := nI 1) (pc' := 119) rfl rfl rfl ?_
  refine wp_putI (pc' := 122) rfl rfl (by first | (simp [up1]; done) | (simp [lmK, up1]; done) | (rw [mK_o (by omega)]; simp [up1]; done) | (rw [up1_x (by omega), mK_o (by omega)]; simp [up1]; done) | (simp [lmK, up1, *]; done)) (by omega) rfl ?_
  refine wp_aload0 (pc' := 123) rfl rfl ?_
  refine wp_iconst (v := nI 0) (pc' := 124) rfl rfl rfl ?_
  refine wp_putI (pc' := 127) rfl rfl (by first | (simp [up1]; done) | (simp [lmK, up1]; done) | (rw [mK_o (by omega)]; simp [up1]; done) | (rw [up1_x (by omega), mK_o (by omega)]; simp [up1]; done) | (simp [lmK, up1, *]; done)) (by omega) rfl ?_
  refine wp_aload0 (pc' := 128) rfl rfl ?_
  refine wp_null (pc' := 129) rfl rfl ?_
  refine wp_putN (pc' := 132) rfl rfl (by first | (simp [up1]; done) | (simp [lmK, up1]; done) | (rw [mK_o (by omega)]; simp [up1]; done) | (rw [up1_x (by omega), mK_o (by omega)]; simp [up1]; done) | (simp [lmK, up1, *]; done)) (by omega) rfl ?_
  refine wp_aload0 (pc' := 133) rfl rfl ?_
  refine wp_getRF (b := b + 2) (pc' := 136) rfl rfl (by first | (simp [up1]; done) | (simp [lmK, up1]; done) | (rw [mK_o (by omega)]; simp [up1]; done) | (rw [up1_x (by omega), mK_o (by omega)]; simp [up1]; done) | (simp [lmK, up1, *]; done)) (by first | (simp [up2, upr]; done) | (simp [up2, upr, *]; done)) rfl ?_
  refine wp_iconst (v := nI 5) (pc' := 137) rfl rfl rfl ?_
  refine wp_callS2 (pc' := 140) rfl rfl rfl rfl rfl rfl ?_
  refine c_fill (w := 25) (by first | (simp [up1]; done) | (simp [lmK, up1]; done) | (rw [mK_o (by omega)]; simp [up1]; done) | (rw [up1_x (by omega), mK_o (by omega)]; simp [up1]; done) | (simp [lmK, up1, *]; done)) (by decide) (by omega) ?_
  refine Cont.u ?_
  refine wp_vret rfl rfl ?_
  refine kk _ _ _ _ ⟨fun a ha => ?_, fun k hk => ?_⟩
  · have e0 : a ≠ b := by omega
    have e1 : a ≠ b + 1 := by omega
    have e2 : a ≠ b + 2 := by omega
    have e3 : a ≠ b + 3 := by omega
    have e4 : a ≠ b + 4 := by omega
    have e5 : a ≠ b + 5 := by omega
    have e6 : a ≠ b + 6 := by omega
    have e7 : a ≠ b + 7 := by omega
    have e8 : a ≠ b + 8 := by omega
    have e9 : a ≠ b + 9 := by omega
    have e10 : a ≠ b + 10 := by omega
    have e11 : a ≠ b + 11 := by omega
    refine ⟨?_, ?_, ?_, ?_⟩
    · simp [up1, *]
    · funext j; simp [up2, upr, *]
    · funext j; simp [up2, upr, *]
    · funext j; simp [up2, upr, *]
  · have hk2 : k = 0 ∨ k = 1 ∨ k = 2 ∨ k = 3 ∨ k = 4 ∨ k = 5 ∨ k = 6 ∨ k = 7 ∨ k = 8 ∨ k = 9 ∨ k = 10 ∨ k = 11 := by omega
    rcases hk2 with rfl | rfl | rfl | rfl | rfl | rfl | rfl | rfl | rfl | rfl | rfl | rfl
    · refine ⟨by simp [up1, kS, k0s, nthO], fun j => ?_, fun j => ?_⟩
      · simp [up2, upr, iS, fillR, nI_z0, nI_z1, nI_z5]
        all_goals ((repeat' split) <;> first | rfl | omega | (simp_all; done))
      · simp [up2, upr, r0s]
        all_goals ((repeat' split) <;> first | rfl | omega | (simp_all; done))
    · refine ⟨by simp [up1, kS, k0s, nthO], fun j => ?_, fun j => ?_⟩
      · simp [up2, upr, iS, fillR, nI_z0, nI_z1, nI_z5]
      · simp [up2, upr, r0s]
    · refine ⟨by simp [up1, kS, k0s, nthO], fun j => ?_, fun j => ?_⟩
      · simp [up2, upr, iS, fillR, nI_z0, nI_z1, nI_z5]
        all_goals ((repeat' split) <;> first | rfl | omega | (simp_all; done))
      · simp [up2, upr, r0s]
    · refine ⟨by simp [up1, kS, k0s, nthO], fun j => ?_, fun j => ?_⟩
      · simp [up2, upr, iS, fillR, nI_z0, nI_z1, nI_z5]
      · simp [up2, upr, r0s]
    · refine ⟨by simp [up1, kS, k0s, nthO], fun j => ?_, fun j => ?_⟩
      · simp [up2, upr, iS, fillR, nI_z0, nI_z1, nI_z5]
      · simp [up2, upr, r0s]
    · refine ⟨by simp [up1, kS, k0s, nthO], fun j => ?_, fun j => ?_⟩
      · simp [up2, upr, iS, fillR, nI_z0, nI_z1, nI_z5]
      · simp [up2, upr, r0s]
    · refine ⟨by simp [up1, kS, k0s, nthO], fun j => ?_, fun j => ?_⟩
      · simp [up2, upr, iS, fillR, nI_z0, nI_z1, nI_z5]
      · simp [up2, upr, r0s]
    · refine ⟨by simp [up1, kS, k0s, nthO], fun j => ?_, fun j => ?_⟩
      · simp [up2, upr, iS, fillR, nI_z0, nI_z1, nI_z5]
      · simp [up2, upr, r0s]
    · refine ⟨by simp [up1, kS, k0s, nthO], fun j => ?_, fun j => ?_⟩
      · simp [up2, upr, iS, fillR, nI_z0, nI_z1, nI_z5]
      · simp [up2, upr, r0s]
    · refine ⟨by simp [up1, kS, k0s, nthO], fun j => ?_, fun j => ?_⟩
      · simp [up2, upr, iS, fillR, nI_z0, nI_z1, nI_z5]
      · simp [up2, upr, r0s]
    · refine ⟨by simp [up1, kS, k0s, nthO], fun j => ?_, fun j => ?_⟩
      · simp [up2, upr, iS, fillR, nI_z0, nI_z1, nI_z5]
      · simp [up2, upr, r0s]
        all_goals ((repeat' split) <;> first | rfl | omega | (simp_all; done))
    · refine ⟨by simp [up1, kS, k0s, nthO], fun j => ?_, fun j => ?_⟩
      · simp [up2, upr, iS, fillR, nI_z0, nI_z1, nI_z5]
      · simp [up2, upr, r0s]
theorem c_rdI {d : Nat} {K : Nat → Nat × Nat} {I : Nat → Nat → Int32} {L : Nat → Nat → Int64} {R : Nat → Nat → Option Nat} {s : Nat} {Q : Lo → Lm → Prop} {b : Nat} {c : Nat} (hf : b + 3 ≤ lmCells) (hs : s + 1 ≤ lmSlots) (kk : ∀ K2 I2 L2 R2, NwC b 1 (fun k => (nthO [(4, 0)] k).getD (0, 0)) (fun _ _ => 0) (fun _ j => if j = 0 then some c else none) K I L R K2 I2 L2 R2 → Q (.inl none) (K2, I2, L2, R2, b + 1, s + 0)) : Ok (d + 1) 4 [.ref b, .ref c] (up1 K b (4, 0), upr I b (fun _ => 0), upr L b (fun _ => 0), upr R b (fun _ => none), b + 1, s) Q := by
  refine Ok.enter (F := F_4) (ls := [.ref b, .ref c]) rfl rfl ?_
  refine wp_aload0 (pc' := 1) rfl rfl ?_
  refine wp_obj (pc' := 4) rfl rfl rfl rfl ?_
  refine wp_aload0 (pc' := 5) rfl rfl ?_
  refine wp_iconst (v := nI 0) (pc' := 6) rfl rfl rfl ?_
  refine wp_putI (pc' := 9) rfl rfl (by first | (simp [up1]; done) | (simp [lmK, up1]; done) | (rw [mK_o (by omega)]; simp [up1]; done) | (rw [up1_x (by omega), mK_o (by omega)]; simp [up1]; done) | (simp [lmK, up1, *]; done)) (by omega) rfl ?_
  refine wp_aload0 (pc' := 10) rfl rfl ?_
  refine wp_iconst (v := nI 0) (pc' := 11) rfl rfl rfl ?_
  refine wp_putI (pc' := 14) rfl rfl (by first | (simp [up1]; done) | (simp [lmK, up1]; done) | (rw [mK_o (by omega)]; simp [up1]; done) | (rw [up1_x (by omega), mK_o (by omega)]; simp [up1]; done) | (simp [lmK, up1, *]; done)) (by omega) rfl ?_
  refine wp_aload0 (pc' := 15) rfl rfl ?_
  refine wp_aload1 (pc' := 16) rfl rfl ?_
  refine wp_putRF (pc' := 19) rfl rfl (by first | (simp [up1]; done) | (simp [lmK, up1]; done) | (rw [mK_o (by omega)]; simp [up1]; done) | (rw [up1_x (by omega), mK_o (by omega)]; simp [up1]; done) | (simp [lmK, up1, *]; done)) (by omega) rfl rfl rfl ?_
  refine wp_vret rfl rfl ?_
  refine kk _ _ _ _ ⟨fun a ha => ?_, fun k hk => ?_⟩
  · have e0 : a ≠ b := by omega
    refine ⟨?_, ?_, ?_, ?_⟩
    · simp [up1, *]
    · funext j; simp [up2, upr, *]
    · funext j; simp [up2, upr, *]
    · funext j; simp [up2, upr, *]
  · have hk2 : k = 0 := by omega
    subst hk2
    · refine ⟨by simp [up1, nthO], fun j => ?_, fun j => ?_⟩
      · first | (simp [up2, upr]; done) | (simp [up2, upr, nI_z0]; done) | (simp [up2, upr, nI_z0]; (repeat' split) <;> first | rfl | omega | (simp_all; done))
      · first | (simp [up2, upr]; done) | (simp [up2, upr, nI_z0]; done) | (simp [up2, upr, nI_z0]; (repeat' split) <;> first | rfl | omega | (simp_all; done))
theorem c_bgI {d : Nat} {K : Nat → Nat × Nat} {I : Nat → Nat → Int32} {L : Nat → Nat → Int64} {R : Nat → Nat → Option Nat} {s : Nat} {Q : Lo → Lm → Prop} {b : Nat} {c e : Nat} (hf : b + 3 ≤ lmCells) (hs : s + 1 ≤ lmSlots) (kk : ∀ K2 I2 L2 R2, NwC b 1 (fun k => (nthO [(5, 0)] k).getD (0, 0)) (fun _ _ => 0) (fun _ j => if j = 0 then some c else if j = 1 then some e else none) K I L R K2 I2 L2 R2 → Q (.inl none) (K2, I2, L2, R2, b + 1, s + 0)) : Ok (d + 1) 5 [.ref b, .ref c, .ref e] (up1 K b (5, 0), upr I b (fun _ => 0), upr L b (fun _ => 0), upr R b (fun _ => none), b + 1, s) Q := by
  refine Ok.enter (F := F_5) (ls := [.ref b, .ref c, .ref e]) rfl rfl ?_
  refine wp_aload0 (pc' := 1) rfl rfl ?_
  refine wp_obj (pc' := 4) rfl rfl rfl rfl ?_
  refine wp_aload0 (pc' := 5) rfl rfl ?_
  refine wp_aload1 (pc' := 6) rfl rfl ?_
  refine wp_putRF (pc' := 9) rfl rfl (by first | (simp [up1]; done) | (simp [lmK, up1]; done) | (rw [mK_o (by omega)]; simp [up1]; done) | (rw [up1_x (by omega), mK_o (by omega)]; simp [up1]; done) | (simp [lmK, up1, *]; done)) (by omega) rfl rfl rfl ?_
  refine wp_aload0 (pc' := 10) rfl rfl ?_
  refine wp_aload2 (pc' := 11) rfl rfl ?_
  refine wp_putRF (pc' := 14) rfl rfl (by first | (simp [up1]; done) | (simp [lmK, up1]; done) | (rw [mK_o (by omega)]; simp [up1]; done) | (rw [up1_x (by omega), mK_o (by omega)]; simp [up1]; done) | (simp [lmK, up1, *]; done)) (by omega) rfl rfl rfl ?_
  refine wp_vret rfl rfl ?_
  refine kk _ _ _ _ ⟨fun a ha => ?_, fun k hk => ?_⟩
  · have e0 : a ≠ b := by omega
    refine ⟨?_, ?_, ?_, ?_⟩
    · simp [up1, *]
    · funext j; simp [up2, upr, *]
    · funext j; simp [up2, upr, *]
    · funext j; simp [up2, upr, *]
  · have hk2 : k = 0 := by omega
    subst hk2
    · refine ⟨by simp [up1, nthO], fun j => ?_, fun j => ?_⟩
      · first | (simp [up2, upr]; done) | (simp [up2, upr, nI_z0]; done) | (simp [up2, upr, nI_z0]; (repeat' split) <;> first | rfl | omega | (simp_all; done))
      · first | (simp [up2, upr]; done) | (simp [up2, upr, nI_z0]; done) | (simp [up2, upr, nI_z0]; (repeat' split) <;> first | rfl | omega | (simp_all; done))
theorem c_lwI {d : Nat} {K : Nat → Nat × Nat} {I : Nat → Nat → Int32} {L : Nat → Nat → Int64} {R : Nat → Nat → Option Nat} {s : Nat} {Q : Lo → Lm → Prop} {b : Nat} {c : Nat} (hf : b + 7 ≤ lmCells) (hs : s + 438 ≤ lmSlots) (kk : ∀ K2 I2 L2 R2, NwC b 5 (fun k => (nthO [(6, 0), (50, 12), (50, 12), (50, 13), (50, 400)] k).getD (0, 0)) (fun _ _ => 0) (fun k j => if k = 0 then (if j = 0 then some c else if j < 5 then some (b + j) else none) else none) K I L R K2 I2 L2 R2 → Q (.inl none) (K2, I2, L2, R2, b + 5, s + 437)) : Ok (d + 1) 6 [.ref b, .ref c] (up1 K b (6, 0), upr I b (fun _ => 0), upr L b (fun _ => 0), upr R b (fun _ => none), b + 1, s) Q := by
  refine Ok.enter (F := F_6) (ls := [.ref b, .ref c]) rfl rfl ?_
  refine wp_aload0 (pc' := 1) rfl rfl ?_
  refine wp_obj (pc' := 4) rfl rfl rfl rfl ?_
  refine wp_aload0 (pc' := 5) rfl rfl ?_
  refine wp_bipush (v := nI 12) (pc' := 7) rfl rfl rfl ?_
  refine wp_nwA (w := 12) (ki := 50) (pc' := 9) (b + 2) rfl rfl (by decide) (by omega) (by omega) rfl rfl ?_
  refine wp_putRF (pc' := 12) rfl rfl (by first | (simp [up1]; done) | (simp [lmK, up1]; done) | (rw [mK_o (by omega)]; simp [up1]; done) | (rw [up1_x (by omega), mK_o (by omega)]; simp [up1]; done) | (simp [lmK, up1, *]; done)) (by omega) rfl rfl rfl ?_
  refine wp_aload0 (pc' := 13) rfl rfl ?_
  refine wp_bipush (v := nI 12) (pc' := 15) rfl rfl rfl ?_
  refine wp_nwA (w := 12) (ki := 50) (pc' := 17) (b + 3) rfl rfl (by decide) (by omega) (by omega) rfl rfl ?_
  refine wp_putRF (pc' := 20) rfl rfl (by first | (simp [up1]; done) | (simp [lmK, up1]; done) | (rw [mK_o (by omega)]; simp [up1]; done) | (rw [up1_x (by omega), mK_o (by omega)]; simp [up1]; done) | (simp [lmK, up1, *]; done)) (by omega) rfl rfl rfl ?_
  refine wp_aload0 (pc' := 21) rfl rfl ?_
  refine wp_bipush (v := nI 13) (pc' := 23) rfl rfl rfl ?_
  refine wp_nwA (w := 13) (ki := 50) (pc' := 25) (b + 4) rfl rfl (by decide) (by omega) (by omega) rfl rfl ?_
  refine wp_putRF (pc' := 28) rfl rfl (by first | (simp [up1]; done) | (simp [lmK, up1]; done) | (rw [mK_o (by omega)]; simp [up1]; done) | (rw [up1_x (by omega), mK_o (by omega)]; simp [up1]; done) | (simp [lmK, up1, *]; done)) (by omega) rfl rfl rfl ?_
  refine wp_aload0 (pc' := 29) rfl rfl ?_
  refine wp_sipush (v := nI 400) (pc' := 32) rfl rfl rfl ?_
  refine wp_nwA (w := 400) (ki := 50) (pc' := 34) (b + 5) rfl rfl (by decide) (by omega) (by omega) rfl rfl ?_
  refine wp_putRF (pc' := 37) rfl rfl (by first | (simp [up1]; done) | (simp [lmK, up1]; done) | (rw [mK_o (by omega)]; simp [up1]; done) | (rw [up1_x (by omega), mK_o (by omega)]; simp [up1]; done) | (simp [lmK, up1, *]; done)) (by omega) rfl rfl rfl ?_
  refine wp_aload0 (pc' := 38) rfl rfl ?_
  refine wp_iconst (v := nI 0) (pc' := 39) rfl rfl rfl ?_
  refine wp_putI (pc' := 42) rfl rfl (by first | (simp [up1]; done) | (simp [lmK, up1]; done) | (rw [mK_o (by omega)]; simp [up1]; done) | (rw [up1_x (by omega), mK_o (by omega)]; simp [up1]; done) | (simp [lmK, up1, *]; done)) (by omega) rfl ?_
  refine wp_aload0 (pc' := 43) rfl rfl ?_
  refine wp_iconst (v := nI 0) (pc' := 44) rfl rfl rfl ?_
  refine wp_putI (pc' := 47) rfl rfl (by first | (simp [up1]; done) | (simp [lmK, up1]; done) | (rw [mK_o (by omega)]; simp [up1]; done) | (rw [up1_x (by omega), mK_o (by omega)]; simp [up1]; done) | (simp [lmK, up1, *]; done)) (by omega) rfl ?_
  refine wp_aload0 (pc' := 48) rfl rfl ?_
  refine wp_aload1 (pc' := 49) rfl rfl ?_
  refine wp_putRF (pc' := 52) rfl rfl (by first | (simp [up1]; done) | (simp [lmK, up1]; done) | (rw [mK_o (by omega)]; simp [up1]; done) | (rw [up1_x (by omega), mK_o (by omega)]; simp [up1]; done) | (simp [lmK, up1, *]; done)) (by omega) rfl rfl rfl ?_
  refine wp_vret rfl rfl ?_
  refine kk _ _ _ _ ⟨fun a ha => ?_, fun k hk => ?_⟩
  · have e0 : a ≠ b := by omega
    have e1 : a ≠ b + 1 := by omega
    have e2 : a ≠ b + 2 := by omega
    have e3 : a ≠ b + 3 := by omega
    have e4 : a ≠ b + 4 := by omega
    refine ⟨?_, ?_, ?_, ?_⟩
    · simp [up1, *]
    · funext j; simp [up2, upr, *]
    · funext j; simp [up2, upr, *]
    · funext j; simp [up2, upr, *]
  · have hk2 : k = 0 ∨ k = 1 ∨ k = 2 ∨ k = 3 ∨ k = 4 := by omega
    rcases hk2 with rfl | rfl | rfl | rfl | rfl
    · refine ⟨by simp [up1, nthO], fun j => ?_, fun j => ?_⟩
      · first | (simp [up2, upr]; done) | (simp [up2, upr, nI_z0]; done) | (simp [up2, upr, nI_z0]; (repeat' split) <;> first | rfl | omega | (simp_all; done))
      · first | (simp [up2, upr]; done) | (simp [up2, upr, nI_z0]; done) | (simp [up2, upr, nI_z0]; (repeat' split) <;> first | rfl | omega | (simp_all; done))
    · refine ⟨by simp [up1, nthO], fun j => ?_, fun j => ?_⟩
      · first | (simp [up2, upr]; done) | (simp [up2, upr, nI_z0]; done) | (simp [up2, upr, nI_z0]; (repeat' split) <;> first | rfl | omega | (simp_all; done))
      · first | (simp [up2, upr]; done) | (simp [up2, upr, nI_z0]; done) | (simp [up2, upr, nI_z0]; (repeat' split) <;> first | rfl | omega | (simp_all; done))
    · refine ⟨by simp [up1, nthO], fun j => ?_, fun j => ?_⟩
      · first | (simp [up2, upr]; done) | (simp [up2, upr, nI_z0]; done) | (simp [up2, upr, nI_z0]; (repeat' split) <;> first | rfl | omega | (simp_all; done))
      · first | (simp [up2, upr]; done) | (simp [up2, upr, nI_z0]; done) | (simp [up2, upr, nI_z0]; (repeat' split) <;> first | rfl | omega | (simp_all; done))
    · refine ⟨by simp [up1, nthO], fun j => ?_, fun j => ?_⟩
      · first | (simp [up2, upr]; done) | (simp [up2, upr, nI_z0]; done) | (simp [up2, upr, nI_z0]; (repeat' split) <;> first | rfl | omega | (simp_all; done))
      · first | (simp [up2, upr]; done) | (simp [up2, upr, nI_z0]; done) | (simp [up2, upr, nI_z0]; (repeat' split) <;> first | rfl | omega | (simp_all; done))
    · refine ⟨by simp [up1, nthO], fun j => ?_, fun j => ?_⟩
      · first | (simp [up2, upr]; done) | (simp [up2, upr, nI_z0]; done) | (simp [up2, upr, nI_z0]; (repeat' split) <;> first | rfl | omega | (simp_all; done))
      · first | (simp [up2, upr]; done) | (simp [up2, upr, nI_z0]; done) | (simp [up2, upr, nI_z0]; (repeat' split) <;> first | rfl | omega | (simp_all; done))
theorem c_tgI {d : Nat} {K : Nat → Nat × Nat} {I : Nat → Nat → Int32} {L : Nat → Nat → Int64} {R : Nat → Nat → Option Nat} {s : Nat} {Q : Lo → Lm → Prop} {b : Nat}  (hf : b + 5 ≤ lmCells) (hs : s + 51 ≤ lmSlots) (kk : ∀ K2 I2 L2 R2, NwC b 3 (fun k => (nthO [(9, 0), (50, 25), (50, 25)] k).getD (0, 0)) (fun _ _ => 0) (fun k j => if k = 0 then (if j < 2 then some (b + 1 + j) else none) else none) K I L R K2 I2 L2 R2 → Q (.inl none) (K2, I2, L2, R2, b + 3, s + 50)) : Ok (d + 1) 8 [.ref b] (up1 K b (9, 0), upr I b (fun _ => 0), upr L b (fun _ => 0), upr R b (fun _ => none), b + 1, s) Q := by
  refine Ok.enter (F := F_8) (ls := [.ref b]) rfl rfl ?_
  refine wp_aload0 (pc' := 1) rfl rfl ?_
  refine wp_obj (pc' := 4) rfl rfl rfl rfl ?_
  refine wp_aload0 (pc' := 5) rfl rfl ?_
  refine wp_bipush (v := nI 25) (pc' := 7) rfl rfl rfl ?_
  refine wp_nwA (w := 25) (ki := 50) (pc' := 9) (b + 2) rfl rfl (by decide) (by omega) (by omega) rfl rfl ?_
  refine wp_putRF (pc' := 12) rfl rfl (by first | (simp [up1]; done) | (simp [lmK, up1]; done) | (rw [mK_o (by omega)]; simp [up1]; done) | (rw [up1_x (by omega), mK_o (by omega)]; simp [up1]; done) | (simp [lmK, up1, *]; done)) (by omega) rfl rfl rfl ?_
  refine wp_aload0 (pc' := 13) rfl rfl ?_
  refine wp_bipush (v := nI 25) (pc' := 15) rfl rfl rfl ?_
  refine wp_nwA (w := 25) (ki := 50) (pc' := 17) (b + 3) rfl rfl (by decide) (by omega) (by omega) rfl rfl ?_
  refine wp_putRF (pc' := 20) rfl rfl (by first | (simp [up1]; done) | (simp [lmK, up1]; done) | (rw [mK_o (by omega)]; simp [up1]; done) | (rw [up1_x (by omega), mK_o (by omega)]; simp [up1]; done) | (simp [lmK, up1, *]; done)) (by omega) rfl rfl rfl ?_
  refine wp_aload0 (pc' := 21) rfl rfl ?_
  refine wp_iconst (v := nI 0) (pc' := 22) rfl rfl rfl ?_
  refine wp_putI (pc' := 25) rfl rfl (by first | (simp [up1]; done) | (simp [lmK, up1]; done) | (rw [mK_o (by omega)]; simp [up1]; done) | (rw [up1_x (by omega), mK_o (by omega)]; simp [up1]; done) | (simp [lmK, up1, *]; done)) (by omega) rfl ?_
  refine wp_vret rfl rfl ?_
  refine kk _ _ _ _ ⟨fun a ha => ?_, fun k hk => ?_⟩
  · have e0 : a ≠ b := by omega
    have e1 : a ≠ b + 1 := by omega
    have e2 : a ≠ b + 2 := by omega
    refine ⟨?_, ?_, ?_, ?_⟩
    · simp [up1, *]
    · funext j; simp [up2, upr, *]
    · funext j; simp [up2, upr, *]
    · funext j; simp [up2, upr, *]
  · have hk2 : k = 0 ∨ k = 1 ∨ k = 2 := by omega
    rcases hk2 with rfl | rfl | rfl
    · refine ⟨by simp [up1, nthO], fun j => ?_, fun j => ?_⟩
      · first | (simp [up2, upr]; done) | (simp [up2, upr, nI_z0]; done) | (simp [up2, upr, nI_z0]; (repeat' split) <;> first | rfl | omega | (simp_all; done))
      · first | (simp [up2, upr]; done) | (simp [up2, upr, nI_z0]; done) | (simp [up2, upr, nI_z0]; (repeat' split) <;> first | rfl | omega | (simp_all; done))
    · refine ⟨by simp [up1, nthO], fun j => ?_, fun j => ?_⟩
      · first | (simp [up2, upr]; done) | (simp [up2, upr, nI_z0]; done) | (simp [up2, upr, nI_z0]; (repeat' split) <;> first | rfl | omega | (simp_all; done))
      · first | (simp [up2, upr]; done) | (simp [up2, upr, nI_z0]; done) | (simp [up2, upr, nI_z0]; (repeat' split) <;> first | rfl | omega | (simp_all; done))
    · refine ⟨by simp [up1, nthO], fun j => ?_, fun j => ?_⟩
      · first | (simp [up2, upr]; done) | (simp [up2, upr, nI_z0]; done) | (simp [up2, upr, nI_z0]; (repeat' split) <;> first | rfl | omega | (simp_all; done))
      · first | (simp [up2, upr]; done) | (simp [up2, upr, nI_z0]; done) | (simp [up2, upr, nI_z0]; (repeat' split) <;> first | rfl | omega | (simp_all; done))
theorem c_mtI {d : Nat} {K : Nat → Nat × Nat} {I : Nat → Nat → Int32} {L : Nat → Nat → Int64} {R : Nat → Nat → Option Nat} {s : Nat} {Q : Lo → Lm → Prop} {b : Nat}  (hf : b + 4 ≤ lmCells) (hs : s + 65 ≤ lmSlots) (kk : ∀ K2 I2 L2 R2, NwC b 2 (fun k => (nthO [(11, 0), (51, 64)] k).getD (0, 0)) (fun _ _ => 0) (fun k j => if k = 0 ∧ j = 0 then some (b + 1) else none) K I L R K2 I2 L2 R2 → Q (.inl none) (K2, I2, L2, R2, b + 2, s + 64)) : Ok (d + 1) 10 [.ref b] (up1 K b (11, 0), upr I b (fun _ => 0), upr L b (fun _ => 0), upr R b (fun _ => none), b + 1, s) Q := by
  refine Ok.enter (F := F_10) (ls := [.ref b]) rfl rfl ?_
  refine wp_aload0 (pc' := 1) rfl rfl ?_
  refine wp_obj (pc' := 4) rfl rfl rfl rfl ?_
  refine wp_aload0 (pc' := 5) rfl rfl ?_
  refine wp_bipush (v := nI 64) (pc' := 7) rfl rfl rfl ?_
  refine wp_nwA (w := 64) (ki := 51) (pc' := 9) (b + 2) rfl rfl (by decide) (by omega) (by omega) rfl rfl ?_
  refine wp_putRF (pc' := 12) rfl rfl (by first | (simp [up1]; done) | (simp [lmK, up1]; done) | (rw [mK_o (by omega)]; simp [up1]; done) | (rw [up1_x (by omega), mK_o (by omega)]; simp [up1]; done) | (simp [lmK, up1, *]; done)) (by omega) rfl rfl rfl ?_
  refine wp_vret rfl rfl ?_
  refine kk _ _ _ _ ⟨fun a ha => ?_, fun k hk => ?_⟩
  · have e0 : a ≠ b := by omega
    have e1 : a ≠ b + 1 := by omega
    refine ⟨?_, ?_, ?_, ?_⟩
    · simp [up1, *]
    · funext j; simp [up2, upr, *]
    · funext j; simp [up2, upr, *]
    · funext j; simp [up2, upr, *]
  · have hk2 : k = 0 ∨ k = 1 := by omega
    rcases hk2 with rfl | rfl
    · refine ⟨by simp [up1, nthO], fun j => ?_, fun j => ?_⟩
      · first | (simp [up2, upr]; done) | (simp [up2, upr, nI_z0]; done) | (simp [up2, upr, nI_z0]; (repeat' split) <;> first | rfl | omega | (simp_all; done))
      · first | (simp [up2, upr]; done) | (simp [up2, upr, nI_z0]; done) | (simp [up2, upr, nI_z0]; (repeat' split) <;> first | rfl | omega | (simp_all; done))
    · refine ⟨by simp [up1, nthO], fun j => ?_, fun j => ?_⟩
      · first | (simp [up2, upr]; done) | (simp [up2, upr, nI_z0]; done) | (simp [up2, upr, nI_z0]; (repeat' split) <;> first | rfl | omega | (simp_all; done))
      · first | (simp [up2, upr]; done) | (simp [up2, upr, nI_z0]; done) | (simp [up2, upr, nI_z0]; (repeat' split) <;> first | rfl | omega | (simp_all; done))
theorem c_wyI {d : Nat} {K : Nat → Nat × Nat} {I : Nat → Nat → Int32} {L : Nat → Nat → Int64} {R : Nat → Nat → Option Nat} {s : Nat} {Q : Lo → Lm → Prop} {b : Nat} (hf : b + 22 ≤ lmCells) (hs : s + 500 ≤ lmSlots) (kk : ∀ K2 I2 L2 R2, NwC b 20 (fun k => if k = 0 then (8, 0) else if k = 3 then (55, 16) else (50, 25)) (fun _ _ => 0) (fun k j => if k = 0 then (if j < 3 then some (b + 1 + j) else none) else if k = 3 then (if j < 16 then some (b + 3 + 1 + j) else none) else none) K I L R K2 I2 L2 R2 → Q (.inl none) (K2, I2, L2, R2, b + 20, s + 466)) : Ok (d + 1) 7 [.ref b] (up1 K b (8, 0), upr I b (fun _ => 0), upr L b (fun _ => 0), upr R b (fun _ => none), b + 1, s) Q := by
  refine Ok.enter (F := F_7) (ls := [.ref b]) rfl rfl ?_
  refine wp_aload0 (pc' := 1) rfl rfl ?_
  refine wp_obj (pc' := 4) rfl rfl rfl rfl ?_
  refine wp_aload0 (pc' := 5) rfl rfl ?_
  refine wp_bipush (v := nI 25) (pc' := 7) rfl rfl rfl ?_
  refine wp_nwA (w := 25) (ki := 50) (pc' := 9) (b + 2) rfl rfl (by decide) (by omega) (by omega) rfl rfl ?_
  refine wp_putRF (pc' := 12) rfl rfl (by first | (simp [up1]; done) | (simp [lmK, up1]; done) | (rw [mK_o (by omega)]; simp [up1]; done) | (rw [up1_x (by omega), mK_o (by omega)]; simp [up1]; done) | (simp [lmK, up1, *]; done)) (by omega) rfl rfl rfl ?_
  refine wp_aload0 (pc' := 13) rfl rfl ?_
  refine wp_bipush (v := nI 25) (pc' := 15) rfl rfl rfl ?_
  refine wp_nwA (w := 25) (ki := 50) (pc' := 17) (b + 3) rfl rfl (by decide) (by omega) (by omega) rfl rfl ?_
  refine wp_putRF (pc' := 20) rfl rfl (by first | (simp [up1]; done) | (simp [lmK, up1]; done) | (rw [mK_o (by omega)]; simp [up1]; done) | (rw [up1_x (by omega), mK_o (by omega)]; simp [up1]; done) | (simp [lmK, up1, *]; done)) (by omega) rfl rfl rfl ?_
  refine wp_aload0 (pc' := 21) rfl rfl ?_
  refine wp_bipush (v := nI 16) (pc' := 23) rfl rfl rfl ?_
  refine wp_bipush (v := nI 25) (pc' := 25) rfl rfl rfl ?_
  refine wp_nwM (w := 16) (y := 25) (pc' := 29) (b + 20) rfl rfl (by decide) (by decide) (by omega) (by omega) rfl rfl ?_
  refine wp_putRF (pc' := 32) rfl rfl (by first | (simp [up1]; done) | (simp [lmK, up1]; done) | (rw [mK_o (by omega)]; simp [up1]; done) | (rw [up1_x (by omega), mK_o (by omega)]; simp [up1]; done) | (simp [lmK, up1, *]; done)) (by omega) rfl rfl rfl ?_
  refine wp_vret rfl rfl ?_
  refine kk _ _ _ _ ⟨fun a ha => ⟨?_, ?_, ?_, ?_⟩, fun k hk => ?_⟩
  · rw [mK_o (by omega), up1_x (by omega), up1_x (by omega), up1_x (by omega)]
  · rw [mI_o (by omega), upr_x (by omega), upr_x (by omega), upr_x (by omega)]
  · rw [mL_o (by omega), upr_x (by omega), upr_x (by omega), upr_x (by omega)]
  · rw [up2_row (by omega), mR_o (by omega), up2_row (by omega), upr_x (by omega), up2_row (by omega), upr_x (by omega), upr_x (by omega)]
  · have hk2 : k = 0 ∨ k = 1 ∨ k = 2 ∨ k = 3 ∨ 4 ≤ k := by omega
    rcases hk2 with rfl | rfl | rfl | rfl | hk4
    · refine ⟨by rw [show b + 0 = b from rfl, mK_o (by omega)]; simp [up1], fun j => by rw [show b + 0 = b from rfl, mI_o (by omega)]; simp [upr], fun j => ?_⟩
      rw [show b + 0 = b from rfl, up2_same, mR_o (by omega)]
      simp [up2, upr]
      all_goals ((repeat' split) <;> first | rfl | omega | (simp_all; done) | (simp_all; omega))
    · refine ⟨by rw [mK_o (by omega)]; simp [up1], fun j => by rw [mI_o (by omega)]; simp [upr], fun j => ?_⟩
      rw [up2_row (by omega), mR_o (by omega)]
      simp [up2, upr]
    · refine ⟨by rw [mK_o (by omega)]; simp [up1], fun j => by rw [mI_o (by omega)]; simp [upr], fun j => ?_⟩
      rw [up2_row (by omega), mR_o (by omega)]
      simp [up2, upr]
    · refine ⟨by rw [mK_n]; rfl, fun j => by rw [mI_r (by omega) (by omega)], fun j => ?_⟩
      rw [up2_row (by omega), mR_n]
      rfl
    · refine ⟨by rw [mK_r (by omega) (by omega)]; dsimp only; rw [if_neg (by omega), if_neg (by omega)], fun j => by rw [mI_r (by omega) (by omega)], fun j => ?_⟩
      rw [up2_row (by omega), mR_r (by omega) (by omega)]
      dsimp only
      rw [if_neg (by omega), if_neg (by omega)]
theorem c_fgI {d : Nat} {K : Nat → Nat × Nat} {I : Nat → Nat → Int32} {L : Nat → Nat → Int64} {R : Nat → Nat → Option Nat} {s : Nat} {Q : Lo → Lm → Prop} {b c : Nat} (hf : b + 105 ≤ lmCells) (hs : s + 1200 ≤ lmSlots) (kk : ∀ K2 I2 L2 R2, NwC b 103 (fun k => if k = 0 then (10, 0) else if k = 1 then (55, 100) else (50, 10)) (fun _ _ => 0) (fun k j => if k = 0 then (if j = 0 then some c else if j = 1 then some (b + 1) else if j = 2 then some (b + 102) else none) else if k = 1 then (if j < 100 then some (b + 1 + 1 + j) else none) else none) K I L R K2 I2 L2 R2 → Q (.inl none) (K2, I2, L2, R2, b + 103, s + 1110)) : Ok (d + 1) 9 [.ref b, .ref c] (up1 K b (10, 0), upr I b (fun _ => 0), upr L b (fun _ => 0), upr R b (fun _ => none), b + 1, s) Q := by
  refine Ok.enter (F := F_9) (ls := [.ref b, .ref c]) rfl rfl ?_
  refine wp_aload0 (pc' := 1) rfl rfl ?_
  refine wp_obj (pc' := 4) rfl rfl rfl rfl ?_
  refine wp_aload0 (pc' := 5) rfl rfl ?_
  refine wp_bipush (v := nI 100) (pc' := 7) rfl rfl rfl ?_
  refine wp_bipush (v := nI 10) (pc' := 9) rfl rfl rfl ?_
  refine wp_nwM (w := 100) (y := 10) (pc' := 13) (b + 102) rfl rfl (by decide) (by decide) (by omega) (by omega) rfl rfl ?_
  refine wp_putRF (pc' := 16) rfl rfl (by first | (simp [up1]; done) | (simp [lmK, up1]; done) | (rw [mK_o (by omega)]; simp [up1]; done) | (rw [up1_x (by omega), mK_o (by omega)]; simp [up1]; done) | (simp [lmK, up1, *]; done)) (by omega) rfl rfl rfl ?_
  refine wp_aload0 (pc' := 17) rfl rfl ?_
  refine wp_bipush (v := nI 10) (pc' := 19) rfl rfl rfl ?_
  refine wp_nwA (w := 10) (ki := 50) (pc' := 21) (b + 103) rfl rfl (by decide) (by omega) (by omega) rfl rfl ?_
  refine wp_putRF (pc' := 24) rfl rfl (by first | (simp [up1]; done) | (simp [lmK, up1]; done) | (rw [mK_o (by omega)]; simp [up1]; done) | (rw [up1_x (by omega), mK_o (by omega)]; simp [up1]; done) | (simp [lmK, up1, *]; done)) (by omega) rfl rfl rfl ?_
  refine wp_aload0 (pc' := 25) rfl rfl ?_
  refine wp_aload1 (pc' := 26) rfl rfl ?_
  refine wp_putRF (pc' := 29) rfl rfl (by first | (simp [up1]; done) | (simp [lmK, up1]; done) | (rw [mK_o (by omega)]; simp [up1]; done) | (rw [up1_x (by omega), mK_o (by omega)]; simp [up1]; done) | (simp [lmK, up1, *]; done)) (by omega) rfl rfl rfl ?_
  refine wp_vret rfl rfl ?_
  refine kk _ _ _ _ ⟨fun a ha => ⟨?_, ?_, ?_, ?_⟩, fun k hk => ?_⟩
  · rw [up1_x (by omega), mK_o (by omega), up1_x (by omega)]
  · rw [upr_x (by omega), mI_o (by omega), upr_x (by omega)]
  · rw [upr_x (by omega), mL_o (by omega), upr_x (by omega)]
  · rw [up2_row (by omega), up2_row (by omega), upr_x (by omega), up2_row (by omega), mR_o (by omega), upr_x (by omega)]
  · have hk2 : k = 0 ∨ k = 1 ∨ k = 102 ∨ (2 ≤ k ∧ k < 102) := by omega
    rcases hk2 with rfl | rfl | rfl | hk4
    · refine ⟨by rw [show b + 0 = b from rfl, up1_x (by omega), mK_o (by omega), up1_y]; rfl, fun j => by rw [show b + 0 = b from rfl, upr_x (by omega), mI_o (by omega), upr_y], fun j => ?_⟩
      rw [show b + 0 = b from rfl, up2_same, up2_same, upr_x (by omega), up2_same, mR_o (by omega), upr_y]
      simp
      all_goals ((repeat' split) <;> first | rfl | omega | (simp_all; done) | (simp_all; omega))
    · refine ⟨by rw [up1_x (by omega), mK_n]; rfl, fun j => by rw [upr_x (by omega), mI_r (by omega) (by omega)], fun j => ?_⟩
      rw [up2_row (by omega), up2_row (by omega), upr_x (by omega), up2_row (by omega), mR_n]
      rfl
    · refine ⟨by rw [up1_y]; rfl, fun j => by rw [upr_y], fun j => ?_⟩
      rw [up2_row (by omega), up2_row (by omega), upr_y]
      rfl
    · refine ⟨by rw [up1_x (by omega), mK_r (by omega) (by omega)]; dsimp only; rw [if_neg (by omega), if_neg (by omega)], fun j => by rw [upr_x (by omega), mI_r (by omega) (by omega)], fun j => ?_⟩
      rw [up2_row (by omega), up2_row (by omega), upr_x (by omega), up2_row (by omega), mR_r (by omega) (by omega)]
      dsimp only
      rw [if_neg (by omega), if_neg (by omega)]
