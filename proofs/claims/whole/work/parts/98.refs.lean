/-! THE REFERENCE: the tape is read, as the class reads it -/
def rfM (I : Mem) (p b : Nat) : Mem := up2 (up2 I 318 10 (nI p)) 318 12 (nI b)
theorem rf_10 {I : Mem} {p b : Nat} : rfM I p b 318 10 = nI p := by unfold rfM; rw [up2_same, if_neg (by decide), up2_hit]
theorem rf_12 {I : Mem} {p b : Nat} : rfM I p b 318 12 = nI b := up2_hit
theorem rf_o {I : Mem} {p b a : Nat} (h : a ≠ 318) : rfM I p b a = I a := by unfold rfM; rw [up2_row h, up2_row h]
theorem rf_j {I : Mem} {p b j : Nat} (h : j ≠ 10) (h2 : j ≠ 12) : rfM I p b 318 j = I 318 j := by unfold rfM; rw [up2_same, if_neg h2, up2_same, if_neg h]
theorem up2_cm {f : Mem} {a b j k : Nat} {u v : Int32} (h : a ≠ b ∨ j ≠ k) : up2 (up2 f a j u) b k v = up2 (up2 f b k v) a j u := by
  funext x y
  unfold up2
  by_cases h1 : x = a ∧ y = j
  · rw [if_neg (show ¬ (x = b ∧ y = k) by omega), if_pos h1, if_pos h1]
  · by_cases h2 : x = b ∧ y = k
    · rw [if_pos h2, if_neg h1, if_pos h2]
    · rw [if_neg h2, if_neg h1, if_neg h1, if_neg h2]
theorem rf_10u {I : Mem} {p b q : Nat} : up2 (rfM I p b) 318 10 (nI q) = rfM I q b := by unfold rfM; rw [up2_cm (Or.inr (by decide)), up2_up2]
theorem rf_12u {I : Mem} {p b q : Nat} : up2 (rfM I p b) 318 12 (nI q) = rfM I p q := by unfold rfM; rw [up2_up2]
theorem rf_up {I : Mem} {p b a k : Nat} {v : Int32} (h : a ≠ 318 ∨ k ≠ 10 ∧ k ≠ 12) : up2 (rfM I p b) a k v = rfM (up2 I a k v) p b := by
  unfold rfM
  rw [up2_cm (by omega), up2_cm (show 318 ≠ a ∨ 10 ≠ k by omega)]
theorem rf_upr {I : Mem} {p b a : Nat} {g : Nat → Int32} (h : a ≠ 318) : upr (rfM I p b) a g = rfM (upr I a g) p b := by
  unfold rfM
  rw [up2_upr_ne (by omega), up2_upr_ne (by omega)]
theorem rf_rf {I : Mem} {p b q c : Nat} : rfM (rfM I p b) q c = rfM I q c := by unfold rfM; rw [up2_cm (f := up2 I 318 10 (nI p)) (Or.inr (by decide)), up2_up2, up2_up2]
/-- what is read: its end, its bytes -/
def RfI (I : Mem) (T : Nat) (tv : Nat → Nat) : Prop := I 318 11 = nI T ∧ T ≤ 400 ∧ TpW (I 324) tv
theorem Rf_rf {I : Mem} {T p b : Nat} {tv : Nat → Nat} (h : RfI I T tv) : RfI (rfM I p b) T tv := ⟨by rw [rf_j (by decide) (by decide)]; exact h.1, h.2.1, by rw [rf_o (by decide)]; exact h.2.2⟩
theorem sb_rg {v lo hi : Nat} (hv : v < 256) (hl : lo < 128) (hh : hi < 128) : (¬ sbI v < nI lo ∧ ¬ nI hi < sbI v) ↔ (lo ≤ v ∧ v ≤ hi) := by
  by_cases h : v < 128
  · rw [sb_lo h]
    exact ⟨fun q => ⟨ge_nI q.1 (by omega), ge_nI q.2 (by omega)⟩, fun q => ⟨nI_nlt q.1 (by omega), nI_nlt q.2 (by omega)⟩⟩
  · have hn := sb_ng ⟨v, hv⟩ (by show 128 ≤ v; omega)
    dsimp only at hn
    constructor
    · intro q
      exfalso
      apply q.1
      by_cases e : lo = 0
      · rw [e]; exact hn
      · exact Int32.lt_trans hn (nI_lt (show 0 < lo by omega) (by omega))
    · intro q; omega
theorem sb_eq {v c : Nat} (hv : v < 256) (hc : c < 128) : sbI v = nI c ↔ v = c := by
  by_cases h : v < 128
  · rw [sb_lo h, nI_eq (by omega) (by omega)]
  · constructor
    · intro q
      have hn := sb_ng ⟨v, hv⟩ (by show 128 ≤ v; omega)
      dsimp only at hn
      rw [q] at hn
      exact absurd hn (nI_pos (by omega))
    · intro q; omega
theorem at_rg {I : Mem} {T p lo hi : Nat} {tv : Nat → Nat} (hR : RfI I T tv) (hl : lo < 128) (hh : hi < 128) : atP (I 324) (nI lo) (nI hi) T p ↔ (p < T ∧ lo ≤ tv p ∧ tv p ≤ hi) := by
  constructor
  · rintro ⟨h1, h2⟩
    have ht := hR.2.2 p (by have := hR.2.1; omega)
    rw [ht.1] at h2
    exact ⟨h1, (sb_rg ht.2 hl hh).mp h2⟩
  · rintro ⟨h1, h2⟩
    have ht := hR.2.2 p (by have := hR.2.1; omega)
    refine ⟨h1, ?_⟩
    rw [ht.1]
    exact (sb_rg ht.2 hl hh).mpr h2
theorem bk_sk {I : Mem} {T : Nat} {tv : Nat → Nat} (hR : RfI I T tv) : ∀ r p, p + r = T → runP (fun p => atP (I 324) (nI 32) (nI 32) T p) r p = skF tv r p
  | 0, p => fun _ => rfl
  | r + 1, p => fun h => by
    rw [runP, skF]
    by_cases e : tv p = 32
    · rw [if_pos ((at_rg hR (by decide) (by decide)).mpr ⟨by omega, by omega, by omega⟩), if_pos e]
      exact bk_sk hR r (p + 1) (by omega)
    · rw [if_neg (fun q => e (by have := (at_rg hR (by decide) (by decide)).mp q; omega)), if_neg e]
theorem bkP_sk {I : Mem} {T p : Nat} {tv : Nat → Nat} (hR : RfI I T tv) (hp : p ≤ T) : bkP (I 324) T p = skp tv T p := bk_sk hR (T - p) p (by omega)
theorem lt_le {I : Mem} {T : Nat} {tv : Nat → Nat} (hR : RfI I T tv) : ∀ r p, p + r = T → runP (fun p => atP (I 324) (nI 97) (nI 122) T p) r p = p + leF tv r p
  | 0, p => fun _ => rfl
  | r + 1, p => fun h => by
    rw [runP, leF]
    by_cases e : 97 ≤ tv p ∧ tv p ≤ 122
    · rw [if_pos ((at_rg hR (by decide) (by decide)).mpr ⟨by omega, e⟩), if_pos e, lt_le hR r (p + 1) (by omega)]; omega
    · rw [if_neg (fun q => e ((at_rg hR (by decide) (by decide)).mp q).2), if_neg e]; rfl
theorem ltP_le2 {I : Mem} {T p : Nat} {tv : Nat → Nat} (hR : RfI I T tv) (hp : p ≤ T) : ltP (I 324) T p = p + letN tv T p := lt_le hR (T - p) p (by omega)
theorem skp_sk {tv : Nat → Nat} {T p : Nat} (hp : p ≤ T) : skp tv T (skp tv T p) = skp tv T p := by
  have h : ∀ r p, p + r = T → skp tv T (skF tv r p) = skF tv r p := by
    intro r
    induction r with
    | zero => intro p h; rw [skF]; exact skp_T (by omega)
    | succ r ih =>
      intro p h
      rw [skF]
      by_cases e : tv p = 32
      · rw [if_pos e]; exact ih (p + 1) (by omega)
      · rw [if_neg e]; exact skp_n (by omega) e
  exact h (T - p) p (by omega)

theorem m_isAtT {d : Nat} {K : Nat → Nat × Nat} {I : Mem} {L : Nat → Nat → Int64} {R : Nat → Nat → Option Nat} {n s : Nat} {Q : Lo → Lm → Prop} {T p b : Nat} {tv : Nat → Nat} {lo hi : Nat} (hT : TK K R n) (hR : RfI I T tv) (hp : p ≤ T) (hl : lo < 128) (hh : hi < 128) (kk : Q (.inl (some (.int (if p < T ∧ lo ≤ tv p ∧ tv p ≤ hi then nI 1 else nI 0)))) (K, rfM I p b, L, R, n, s)) : Ok (d + 1) 223 [.ref 318, .int (nI lo), .int (nI hi)] (K, rfM I p b, L, R, n, s) Q :=
  m_isAt (e := T) (p := p) hT rf_10 (Rf_rf hR).1 (Nat.le_trans hp hR.2.1) hR.2.1 (by
    by_cases e : p < T ∧ lo ≤ tv p ∧ tv p ≤ hi
    · rw [if_pos ((at_rg (Rf_rf hR) hl hh).mpr e)]; rw [if_pos e] at kk; exact kk
    · rw [if_neg (fun q => e ((at_rg (Rf_rf hR) hl hh).mp q))]; rw [if_neg e] at kk; exact kk)
theorem m_blanksT {d : Nat} {K : Nat → Nat × Nat} {I : Mem} {L : Nat → Nat → Int64} {R : Nat → Nat → Option Nat} {n s : Nat} {Q : Lo → Lm → Prop} {T p b : Nat} {tv : Nat → Nat} (hT : TK K R n) (hR : RfI I T tv) (hp : p ≤ T) (kk : Q (.inl none) (K, rfM I (skp tv T p) (skp tv T p), L, R, n, s)) : Ok (d + 2) 222 [.ref 318] (K, rfM I p b, L, R, n, s) Q :=
  m_blanks (e := T) (p := p) hT rf_10 (Rf_rf hR).1 (Nat.le_trans hp hR.2.1) hR.2.1 (by rw [bkP_sk (Rf_rf hR) hp, rf_10u, rf_12u]; exact kk)
theorem m_lettersT {d : Nat} {K : Nat → Nat × Nat} {I : Mem} {L : Nat → Nat → Int64} {R : Nat → Nat → Option Nat} {n s : Nat} {Q : Lo → Lm → Prop} {T p b : Nat} {tv : Nat → Nat} (hT : TK K R n) (hR : RfI I T tv) (hp : p ≤ T) (kk : Q (.inl none) (K, rfM I ((skp tv T p) + letN tv T (skp tv T p)) (skp tv T p), L, R, n, s)) : Ok (d + 3) 225 [.ref 318] (K, rfM I p b, L, R, n, s) Q :=
  m_letters (e := T) (p := p) hT rf_10 (Rf_rf hR).1 (Nat.le_trans hp hR.2.1) hR.2.1 (by rw [bkP_sk (Rf_rf hR) hp, ltP_le2 (Rf_rf hR) (skp_ge hp).2, rf_10u, rf_12u, rf_10u]; exact kk)

def eqP (tv : Nat → Nat) (b : Nat) (W : List Nat) : Nat → Bool
  | 0 => true
  | k + 1 => eqP tv b W k && decide (tv (b + k) = W.getD k 0)
theorem eqP_s {tv : Nat → Nat} {b k : Nat} {W : List Nat} : eqP tv b W (k + 1) = (eqP tv b W k && decide (tv (b + k) = W.getD k 0)) := rfl
theorem eqP_c {tv : Nat → Nat} {c : Nat} {r : List Nat} : ∀ k b, eqP tv b (c :: r) (k + 1) = (decide (tv b = c) && eqP tv (b + 1) r k)
  | 0, b => by rw [eqP_s]; show (true && decide (tv (b + 0) = c)) = (decide (tv b = c) && true); rw [Bool.true_and, Bool.and_true]; rfl
  | k + 1, b => by
    rw [eqP_s, eqP_c k b, eqP_s, Bool.and_assoc]
    show (decide (tv b = c) && (eqP tv (b + 1) r k && decide (tv (b + (k + 1)) = r.getD k 0))) = _
    rw [show b + (k + 1) = b + 1 + k by omega]
theorem eqP_W {tv : Nat → Nat} : ∀ (W : List Nat) (b : Nat), eqP tv b W W.length = eqW tv b W
  | [], b => rfl
  | c :: r, b => by
    show eqP tv b (c :: r) (r.length + 1) = (decide (tv b = c) && eqW tv (b + 1) r)
    rw [eqP_c, eqP_W r (b + 1)]
theorem eqP_f {tv : Nat → Nat} {b k : Nat} {W : List Nat} (h : ¬ eqP tv b W k = true) : ∀ m, k ≤ m → eqP tv b W m = false
  | 0 => fun hm => by rw [show k = 0 by omega] at h; exact absurd rfl h
  | m + 1 => fun hm => by
    by_cases e : k = m + 1
    · rw [← e]; exact Bool.eq_false_iff.mpr h
    · rw [eqP_s, eqP_f h m (by omega)]; rfl
/-- a word between two places -/
abbrev wbB (tv : Nat → Nat) (b p : Nat) (W : List Nat) : Bool := decide (p - b = W.length) && eqW tv b W

theorem wb_f {tv : Nat → Nat} {b p i : Nat} {W : List Nat} {f : Bool} (h : f = (decide (p - b = W.length) && eqP tv b W i)) (hi : i ≤ W.length) (hf : ¬ f = true) : wbB tv b p W = false := by
  unfold wbB
  by_cases e : p - b = W.length
  · rw [decide_eq_true e, Bool.true_and] at h
    rw [← eqP_W, eqP_f (by rw [← h]; exact hf) W.length hi, Bool.and_false]
  · rw [decide_eq_false e, Bool.false_and]

theorem m_isWord {d : Nat} {K : Nat → Nat × Nat} {I : Nat → Nat → Int32} {L : Nat → Nat → Int64} {R : Nat → Nat → Option Nat} {n s : Nat} {Q : Lo → Lm → Prop} {T p b w : Nat} {tv : Nat → Nat} (W : List Nat) (hT : TK K R n) (hR : RfI I T tv) (hS : SS K I R) (hw : w < 57) (hj : sB w = W) (hb : b ≤ p) (hp : p ≤ T) (kk : Q (.inl (some (.int (if wbB tv b p W = true then nI 1 else nI 0)))) (K, rfM I p b, L, R, n, s)) : Ok (d + 3) 227 [.ref 318, .ref (lmB + 2 * w)] (K, rfM I p b, L, R, n, s) Q := by
  obtain ⟨-, -, hn⟩ := id hT
  have hk13 : (K (lmB + 2 * w)).1 = 13 := by rw [(hS w hw).1]
  have hT4 := hR.2.1
  have hWl : W.length < 100 := by rw [← hj]; exact (sB_small ⟨w, hw⟩).1
  refine Ok.enter (F := F_227) (ls := [.ref 318, .ref (lmB + 2 * w), lDead, lDead]) rfl rfl ?_
  refine wp_aload0 (pc' := 1) rfl rfl ?_
  refine wp_getI (pc' := 4) rfl rfl (by first | exact TK.k1 hT rfl | exact TK.kk hT rfl | exact TK.r hT rfl | assumption) rfl ?_
  rw [rf_10]
  refine wp_aload0 (pc' := 5) rfl rfl ?_
  refine wp_getI (pc' := 8) rfl rfl (by first | exact TK.k1 hT rfl | exact TK.kk hT rfl | exact TK.r hT rfl | assumption) rfl ?_
  rw [rf_12]
  first | refine wp_isubN (pc' := 9) rfl (by with_reducible rfl) (by with_reducible rfl) (by omega) rfl ?_ | refine wp_isub (pc' := 9) rfl rfl ?_
  refine wp_aload1 (pc' := 10) rfl rfl ?_
  refine wp_callV1 (pc' := 13) rfl rfl rfl rfl rfl (by first | exact TK.k1 hT rfl | exact TK.kk hT rfl | exact TK.r hT rfl | assumption) rfl rfl ?_
  refine c_strlen (SS_off hS (fun a ha => rf_o (by unfold lmB at ha; omega))) hw ?_
  rw [hj]
  refine Cont.v ?_
  refine wp_icmpne (pc' := 16) rfl rfl ?_ ?_
  · intro h13
    refine wp_iconst (v := nI 0) (pc' := 21) rfl rfl rfl ?_
    refine wp_istore2 (pc' := 22) rfl (by first | rfl | assumption) rfl ?_
    refine wp_iconst (v := nI 0) (pc' := 23) rfl rfl rfl ?_
    refine wp_istore3 (pc' := 24) rfl (by first | rfl | assumption) rfl ?_
    have lp24 : ∀ r (i : Nat) (f : Bool), W.length + 1 ≤ i + r ∧ i ≤ W.length → f = (decide (p - b = W.length) && eqP tv b W i) → (f = true → p - b = W.length) → WP (d + 2) F_227 24 [.ref 318, .ref (lmB + 2 * w), .int (if f = true then nI 1 else nI 0), .int (nI i)] [] (K, rfM I p b, L, R, n, s) Q := by
      intro r; induction r with
      | zero =>
        intro i f hi hv0 hv1
        exact absurd hi (by omega)
      | succ r ih =>
        intro i f hi hv0 hv1
        refine wp_iload2 (pc' := 25) rfl rfl ?_
        first | refine wp_ifeqB (pc' := 28) rfl rfl ?_ ?_ | refine wp_ifeq (pc' := 28) rfl rfl ?_ ?_
        · intro h25
          refine wp_iload2 (pc' := 68) rfl rfl ?_
          refine wp_iret rfl rfl (by first | rfl | exact nar_if) ?_
          first | exact Qv kk (by rw [hv0, show i = W.length by have := ge_nI h33 (by omega); omega, eqP_W]) rfl | exact Qv kk (by rw [wb_f hv0 (by omega) h25]; exact if_neg h25) rfl
        · intro h25
          refine wp_iload3 (pc' := 29) rfl rfl ?_
          refine wp_aload1 (pc' := 30) rfl rfl ?_
          refine wp_callV1 (pc' := 33) rfl rfl rfl rfl rfl (by first | exact TK.k1 hT rfl | exact TK.kk hT rfl | exact TK.r hT rfl | assumption) rfl rfl ?_
          refine c_strlen (SS_off hS (fun a ha => rf_o (by unfold lmB at ha; omega))) hw ?_
          rw [hj]
          refine Cont.v ?_
          refine wp_icmpge (pc' := 36) rfl rfl ?_ ?_
          · intro h33
            refine wp_iload2 (pc' := 68) rfl rfl ?_
            refine wp_iret rfl rfl (by first | rfl | exact nar_if) ?_
            first | exact Qv kk (by rw [hv0, show i = W.length by have := ge_nI h33 (by omega); omega, eqP_W]) rfl | exact Qv kk (by rw [wb_f hv0 (by omega) h25]; exact if_neg h25) rfl
          · intro h33
            have hlt2 : i < W.length := nI_lt_inv (by omega) (by omega) h33
            have hpl : p - b = W.length := hv1 h25
            have hch : W.getD i 0 < 128 := by rw [← hj]; exact sB_lt hw i
            have htb := (hR.2.2 (b + i) (by omega)).2
            refine wp_aload0 (pc' := 37) rfl rfl ?_
            refine wp_getRF (pc' := 40) rfl rfl (by first | exact TK.k1 hT rfl | exact TK.kk hT rfl | exact TK.r hT rfl | assumption) (by first | exact TK.k1 hT rfl | exact TK.kk hT rfl | exact TK.r hT rfl | assumption) rfl ?_
            refine wp_aload0 (pc' := 41) rfl rfl ?_
            refine wp_getI (pc' := 44) rfl rfl (by first | exact TK.k1 hT rfl | exact TK.kk hT rfl | exact TK.r hT rfl | assumption) rfl ?_
            rw [rf_12]
            refine wp_iload3 (pc' := 45) rfl rfl ?_
            first | refine wp_iaddN (pc' := 46) rfl (by with_reducible rfl) (by with_reducible rfl) rfl ?_ | refine wp_iadd (pc' := 46) rfl rfl ?_
            first | refine wp_bald _ (pc' := 47) rfl (by first | exact TK.k1 hT rfl | exact TK.kk hT rfl | exact TK.r hT rfl | assumption) (by with_reducible rfl) (by omega) (by first | decide | assumption | omega) rfl ?_ | refine wp_zald _ (pc' := 47) rfl (by first | exact TK.k1 hT rfl | exact TK.kk hT rfl | exact TK.r hT rfl | assumption) (by with_reducible rfl) (by omega) (by first | decide | assumption | omega) rfl ?_
            rw [rf_o (by decide), (hR.2.2 _ (by omega)).1]
            refine wp_aload1 (pc' := 48) rfl rfl ?_
            refine wp_iload3 (pc' := 49) rfl rfl ?_
            refine wp_callV2 (pc' := 52) rfl rfl rfl rfl rfl (by first | exact TK.k1 hT rfl | exact TK.kk hT rfl | exact TK.r hT rfl | assumption) rfl rfl ?_
            refine c_charAt (SS_off hS (fun a ha => rf_o (by unfold lmB at ha; omega))) hw (by rw [hj]; exact hlt2) ?_
            rw [hj]
            refine Cont.v ?_
            refine wp_icmpne (pc' := 55) rfl rfl ?_ ?_
            · intro h52
              refine wp_iconst (v := nI 0) (pc' := 60) rfl rfl rfl ?_
              refine wp_istore2 (pc' := 61) rfl (by first | rfl | assumption) rfl ?_
              first | refine wp_iinc3 (w := nI 1) (pc' := 64) rfl rfl rfl (by with_reducible exact nI_add _ _) rfl ?_ | refine wp_iinc3 (w := nI 1) (pc' := 64) rfl rfl rfl rfl rfl ?_
              refine wp_goto rfl ?_
              exact WP.cg (ih (i + 1) (decide (tv (b + i) = W.getD i 0)) (by omega) (by rw [eqP_s, ← Bool.and_assoc, ← hv0, h25, Bool.true_and]) (fun _ => hpl)) (lC1 (lC1 (lI1 (by first | with_reducible rfl | exact (if_pos (decide_eq_true ((sb_eq htb hch).mp h52))).symm | exact (if_neg (fun q => h52 ((sb_eq htb hch).mpr (of_decide_eq_true q)))).symm) (lI1 (by first | with_reducible rfl | exact (if_pos (decide_eq_true ((sb_eq htb hch).mp h52))).symm | exact (if_neg (fun q => h52 ((sb_eq htb hch).mpr (of_decide_eq_true q)))).symm) rfl)))) rfl (by rfl)
            · intro h52
              refine wp_iconst (v := nI 1) (pc' := 56) rfl rfl rfl ?_
              refine wp_goto rfl ?_
              refine wp_istore2 (pc' := 61) rfl (by first | rfl | assumption) rfl ?_
              first | refine wp_iinc3 (w := nI 1) (pc' := 64) rfl rfl rfl (by with_reducible exact nI_add _ _) rfl ?_ | refine wp_iinc3 (w := nI 1) (pc' := 64) rfl rfl rfl rfl rfl ?_
              refine wp_goto rfl ?_
              exact WP.cg (ih (i + 1) (decide (tv (b + i) = W.getD i 0)) (by omega) (by rw [eqP_s, ← Bool.and_assoc, ← hv0, h25, Bool.true_and]) (fun _ => hpl)) (lC1 (lC1 (lI1 (by first | with_reducible rfl | exact (if_pos (decide_eq_true ((sb_eq htb hch).mp h52))).symm | exact (if_neg (fun q => h52 ((sb_eq htb hch).mpr (of_decide_eq_true q)))).symm) (lI1 (by first | with_reducible rfl | exact (if_pos (decide_eq_true ((sb_eq htb hch).mp h52))).symm | exact (if_neg (fun q => h52 ((sb_eq htb hch).mpr (of_decide_eq_true q)))).symm) rfl)))) rfl (by rfl)
    exact WP.cg (lp24 (W.length + 1) (0) (decide (p - b = W.length)) (by omega) (by show _ = (_ && true); rw [Bool.and_true]) (fun q => of_decide_eq_true q)) (lC1 (lC1 (lI1 (by first | with_reducible rfl | exact (if_pos (decide_eq_true (eq_nI h13 (by omega) (by omega)))).symm | exact (if_neg (fun q => h13 (by rw [of_decide_eq_true q]))).symm | rfl) (lI1 (by first | with_reducible rfl | exact (if_pos (decide_eq_true (eq_nI h13 (by omega) (by omega)))).symm | exact (if_neg (fun q => h13 (by rw [of_decide_eq_true q]))).symm | rfl) rfl)))) rfl (by rfl)
  · intro h13
    refine wp_iconst (v := nI 1) (pc' := 17) rfl rfl rfl ?_
    refine wp_goto rfl ?_
    refine wp_istore2 (pc' := 22) rfl (by first | rfl | assumption) rfl ?_
    refine wp_iconst (v := nI 0) (pc' := 23) rfl rfl rfl ?_
    refine wp_istore3 (pc' := 24) rfl (by first | rfl | assumption) rfl ?_
    have lp24 : ∀ r (i : Nat) (f : Bool), W.length + 1 ≤ i + r ∧ i ≤ W.length → f = (decide (p - b = W.length) && eqP tv b W i) → (f = true → p - b = W.length) → WP (d + 2) F_227 24 [.ref 318, .ref (lmB + 2 * w), .int (if f = true then nI 1 else nI 0), .int (nI i)] [] (K, rfM I p b, L, R, n, s) Q := by
      intro r; induction r with
      | zero =>
        intro i f hi hv0 hv1
        exact absurd hi (by omega)
      | succ r ih =>
        intro i f hi hv0 hv1
        refine wp_iload2 (pc' := 25) rfl rfl ?_
        first | refine wp_ifeqB (pc' := 28) rfl rfl ?_ ?_ | refine wp_ifeq (pc' := 28) rfl rfl ?_ ?_
        · intro h25
          refine wp_iload2 (pc' := 68) rfl rfl ?_
          refine wp_iret rfl rfl (by first | rfl | exact nar_if) ?_
          first | exact Qv kk (by rw [hv0, show i = W.length by have := ge_nI h33 (by omega); omega, eqP_W]) rfl | exact Qv kk (by rw [wb_f hv0 (by omega) h25]; exact if_neg h25) rfl
        · intro h25
          refine wp_iload3 (pc' := 29) rfl rfl ?_
          refine wp_aload1 (pc' := 30) rfl rfl ?_
          refine wp_callV1 (pc' := 33) rfl rfl rfl rfl rfl (by first | exact TK.k1 hT rfl | exact TK.kk hT rfl | exact TK.r hT rfl | assumption) rfl rfl ?_
          refine c_strlen (SS_off hS (fun a ha => rf_o (by unfold lmB at ha; omega))) hw ?_
          rw [hj]
          refine Cont.v ?_
          refine wp_icmpge (pc' := 36) rfl rfl ?_ ?_
          · intro h33
            refine wp_iload2 (pc' := 68) rfl rfl ?_
            refine wp_iret rfl rfl (by first | rfl | exact nar_if) ?_
            first | exact Qv kk (by rw [hv0, show i = W.length by have := ge_nI h33 (by omega); omega, eqP_W]) rfl | exact Qv kk (by rw [wb_f hv0 (by omega) h25]; exact if_neg h25) rfl
          · intro h33
            have hlt2 : i < W.length := nI_lt_inv (by omega) (by omega) h33
            have hpl : p - b = W.length := hv1 h25
            have hch : W.getD i 0 < 128 := by rw [← hj]; exact sB_lt hw i
            have htb := (hR.2.2 (b + i) (by omega)).2
            refine wp_aload0 (pc' := 37) rfl rfl ?_
            refine wp_getRF (pc' := 40) rfl rfl (by first | exact TK.k1 hT rfl | exact TK.kk hT rfl | exact TK.r hT rfl | assumption) (by first | exact TK.k1 hT rfl | exact TK.kk hT rfl | exact TK.r hT rfl | assumption) rfl ?_
            refine wp_aload0 (pc' := 41) rfl rfl ?_
            refine wp_getI (pc' := 44) rfl rfl (by first | exact TK.k1 hT rfl | exact TK.kk hT rfl | exact TK.r hT rfl | assumption) rfl ?_
            rw [rf_12]
            refine wp_iload3 (pc' := 45) rfl rfl ?_
            first | refine wp_iaddN (pc' := 46) rfl (by with_reducible rfl) (by with_reducible rfl) rfl ?_ | refine wp_iadd (pc' := 46) rfl rfl ?_
            first | refine wp_bald _ (pc' := 47) rfl (by first | exact TK.k1 hT rfl | exact TK.kk hT rfl | exact TK.r hT rfl | assumption) (by with_reducible rfl) (by omega) (by first | decide | assumption | omega) rfl ?_ | refine wp_zald _ (pc' := 47) rfl (by first | exact TK.k1 hT rfl | exact TK.kk hT rfl | exact TK.r hT rfl | assumption) (by with_reducible rfl) (by omega) (by first | decide | assumption | omega) rfl ?_
            rw [rf_o (by decide), (hR.2.2 _ (by omega)).1]
            refine wp_aload1 (pc' := 48) rfl rfl ?_
            refine wp_iload3 (pc' := 49) rfl rfl ?_
            refine wp_callV2 (pc' := 52) rfl rfl rfl rfl rfl (by first | exact TK.k1 hT rfl | exact TK.kk hT rfl | exact TK.r hT rfl | assumption) rfl rfl ?_
            refine c_charAt (SS_off hS (fun a ha => rf_o (by unfold lmB at ha; omega))) hw (by rw [hj]; exact hlt2) ?_
            rw [hj]
            refine Cont.v ?_
            refine wp_icmpne (pc' := 55) rfl rfl ?_ ?_
            · intro h52
              refine wp_iconst (v := nI 0) (pc' := 60) rfl rfl rfl ?_
              refine wp_istore2 (pc' := 61) rfl (by first | rfl | assumption) rfl ?_
              first | refine wp_iinc3 (w := nI 1) (pc' := 64) rfl rfl rfl (by with_reducible exact nI_add _ _) rfl ?_ | refine wp_iinc3 (w := nI 1) (pc' := 64) rfl rfl rfl rfl rfl ?_
              refine wp_goto rfl ?_
              exact WP.cg (ih (i + 1) (decide (tv (b + i) = W.getD i 0)) (by omega) (by rw [eqP_s, ← Bool.and_assoc, ← hv0, h25, Bool.true_and]) (fun _ => hpl)) (lC1 (lC1 (lI1 (by first | with_reducible rfl | exact (if_pos (decide_eq_true ((sb_eq htb hch).mp h52))).symm | exact (if_neg (fun q => h52 ((sb_eq htb hch).mpr (of_decide_eq_true q)))).symm) (lI1 (by first | with_reducible rfl | exact (if_pos (decide_eq_true ((sb_eq htb hch).mp h52))).symm | exact (if_neg (fun q => h52 ((sb_eq htb hch).mpr (of_decide_eq_true q)))).symm) rfl)))) rfl (by rfl)
            · intro h52
              refine wp_iconst (v := nI 1) (pc' := 56) rfl rfl rfl ?_
              refine wp_goto rfl ?_
              refine wp_istore2 (pc' := 61) rfl (by first | rfl | assumption) rfl ?_
              first | refine wp_iinc3 (w := nI 1) (pc' := 64) rfl rfl rfl (by with_reducible exact nI_add _ _) rfl ?_ | refine wp_iinc3 (w := nI 1) (pc' := 64) rfl rfl rfl rfl rfl ?_
              refine wp_goto rfl ?_
              exact WP.cg (ih (i + 1) (decide (tv (b + i) = W.getD i 0)) (by omega) (by rw [eqP_s, ← Bool.and_assoc, ← hv0, h25, Bool.true_and]) (fun _ => hpl)) (lC1 (lC1 (lI1 (by first | with_reducible rfl | exact (if_pos (decide_eq_true ((sb_eq htb hch).mp h52))).symm | exact (if_neg (fun q => h52 ((sb_eq htb hch).mpr (of_decide_eq_true q)))).symm) (lI1 (by first | with_reducible rfl | exact (if_pos (decide_eq_true ((sb_eq htb hch).mp h52))).symm | exact (if_neg (fun q => h52 ((sb_eq htb hch).mpr (of_decide_eq_true q)))).symm) rfl)))) rfl (by rfl)
    exact WP.cg (lp24 (W.length + 1) (0) (decide (p - b = W.length)) (by omega) (by show _ = (_ && true); rw [Bool.and_true]) (fun q => of_decide_eq_true q)) (lC1 (lC1 (lI1 (by first | with_reducible rfl | exact (if_pos (decide_eq_true (eq_nI h13 (by omega) (by omega)))).symm | exact (if_neg (fun q => h13 (by rw [of_decide_eq_true q]))).symm | rfl) (lI1 (by first | with_reducible rfl | exact (if_pos (decide_eq_true (eq_nI h13 (by omega) (by omega)))).symm | exact (if_neg (fun q => h13 (by rw [of_decide_eq_true q]))).symm | rfl) rfl)))) rfl (by rfl)
theorem wb_wd {tv : Nat → Nat} {T q : Nat} {W : List Nat} : wbB tv q (q + letN tv T q) W = wdB tv T q W := by
  unfold wbB wdB
  rw [Nat.add_sub_cancel_left]

theorem m_passes {d : Nat} {K : Nat → Nat × Nat} {I : Nat → Nat → Int32} {L : Nat → Nat → Int64} {R : Nat → Nat → Option Nat} {n s : Nat} {Q : Lo → Lm → Prop} {T p b w : Nat} {tv : Nat → Nat} (W : List Nat) (hT : TK K R n) (hR : RfI I T tv) (hp : p ≤ T) (hS : SS K I R) (hw : w < 57) (hj : sB w = W) (kk : Q (.inl (some (.int (if wdB tv T (skp tv T p) W = true then nI 1 else nI 0)))) (K, rfM I (if wdB tv T (skp tv T p) W = true then (skp tv T p) + letN tv T (skp tv T p) else (skp tv T p)) (skp tv T p), L, R, n, s)) : Ok (d + 4) 235 [.ref 318, .ref (lmB + 2 * w)] (K, rfM I p b, L, R, n, s) Q := by
  obtain ⟨-, -, hn⟩ := id hT
  refine Ok.enter (F := F_235) (ls := [.ref 318, .ref (lmB + 2 * w)]) rfl rfl ?_
  refine wp_aload0 (pc' := 1) rfl rfl ?_
  refine wp_callV1 (pc' := 4) rfl rfl rfl rfl rfl (by first | exact TK.k1 hT rfl | exact TK.kk hT rfl | exact TK.r hT rfl | assumption) rfl rfl ?_
  refine m_lettersT hT hR hp ?_
  obtain ⟨q, hq⟩ : ∃ q, skp tv T p = q := ⟨_, rfl⟩
  have hqT := skp_ge (tv := tv) hp
  rw [hq] at hqT ⊢
  have hlT := letN_le (tv := tv) (T := T) (p := q)
  refine Cont.u ?_
  refine wp_aload0 (pc' := 5) rfl rfl ?_
  refine wp_aload1 (pc' := 6) rfl rfl ?_
  refine wp_callV2 (pc' := 9) rfl rfl rfl rfl rfl (by first | exact TK.k1 hT rfl | exact TK.kk hT rfl | exact TK.r hT rfl | assumption) rfl rfl ?_
  refine m_isWord W hT hR hS hw hj (by omega) (by omega) ?_
  rw [wb_wd]
  refine Cont.v ?_
  first | refine wp_ifeqB (pc' := 12) rfl rfl ?_ ?_ | refine wp_ifeq (pc' := 12) rfl rfl ?_ ?_
  · intro h9
    refine wp_aload0 (pc' := 15) rfl rfl ?_
    refine wp_aload0 (pc' := 16) rfl rfl ?_
    refine wp_getI (pc' := 19) rfl rfl (by first | exact TK.k1 hT rfl | exact TK.kk hT rfl | exact TK.r hT rfl | assumption) rfl ?_
    rw [rf_12]
    refine wp_putI (pc' := 22) rfl rfl (by first | exact TK.k1 hT rfl | exact TK.kk hT rfl | exact TK.r hT rfl | assumption) (by omega) rfl ?_
    refine wp_iconst (v := nI 0) (pc' := 23) rfl rfl rfl ?_
    refine wp_iret rfl rfl (by first | rfl | exact nar_if) ?_
    first | (rw [rf_10u]; rw [hq, if_neg h9, if_neg h9] at kk; exact kk) | (rw [hq, if_pos h9, if_pos h9] at kk; exact kk)
  · intro h9
    refine wp_iconst (v := nI 1) (pc' := 13) rfl rfl rfl ?_
    refine wp_iret rfl rfl (by first | rfl | exact nar_if) ?_
    first | (rw [rf_10u]; rw [hq, if_neg h9, if_neg h9] at kk; exact kk) | (rw [hq, if_pos h9, if_pos h9] at kk; exact kk)
theorem m_sign {d : Nat} {K : Nat → Nat × Nat} {I : Nat → Nat → Int32} {L : Nat → Nat → Int64} {R : Nat → Nat → Option Nat} {n s : Nat} {Q : Lo → Lm → Prop} {T p b c : Nat} {tv : Nat → Nat} (hT : TK K R n) (hR : RfI I T tv) (hp : p ≤ T) (hc : c < 128) (kk : Q (.inl (some (.int (if sgn tv T (skp tv T p) c then nI 1 else nI 0)))) (K, rfM I (if sgn tv T (skp tv T p) c then (skp tv T p) + 1 else (skp tv T p)) (skp tv T p), L, R, n, s)) : Ok (d + 3) 247 [.ref 318, .int (nI c)] (K, rfM I p b, L, R, n, s) Q := by
  obtain ⟨-, -, hn⟩ := id hT
  refine Ok.enter (F := F_247) (ls := [.ref 318, .int (nI c)]) rfl rfl ?_
  refine wp_aload0 (pc' := 1) rfl rfl ?_
  refine wp_callV1 (pc' := 4) rfl rfl rfl rfl rfl (by first | exact TK.k1 hT rfl | exact TK.kk hT rfl | exact TK.r hT rfl | assumption) rfl rfl ?_
  refine m_blanksT hT hR hp ?_
  obtain ⟨q, hq⟩ : ∃ q, skp tv T p = q := ⟨_, rfl⟩
  have hqT := skp_ge (tv := tv) hp
  rw [hq] at hqT ⊢
  refine Cont.u ?_
  refine wp_aload0 (pc' := 5) rfl rfl ?_
  refine wp_iload1 (pc' := 6) rfl rfl ?_
  refine wp_iload1 (pc' := 7) rfl rfl ?_
  refine wp_callV3 (pc' := 10) rfl rfl rfl rfl rfl (by first | exact TK.k1 hT rfl | exact TK.kk hT rfl | exact TK.r hT rfl | assumption) rfl rfl ?_
  refine m_isAtT hT hR hqT.2 hc hc ?_
  refine Cont.v ?_
  first | refine wp_ifneB (pc' := 13) rfl rfl ?_ ?_ | refine wp_ifne (pc' := 13) rfl rfl ?_ ?_
  · intro h10
    refine wp_aload0 (pc' := 16) rfl rfl ?_
    refine wp_dup (pc' := 17) rfl rfl rfl ?_
    refine wp_getI (pc' := 20) rfl rfl (by first | exact TK.k1 hT rfl | exact TK.kk hT rfl | exact TK.r hT rfl | assumption) rfl ?_
    rw [rf_10]
    refine wp_iconst (v := nI 1) (pc' := 21) rfl rfl rfl ?_
    first | refine wp_iaddN (pc' := 22) rfl (by with_reducible rfl) (by with_reducible rfl) rfl ?_ | refine wp_iadd (pc' := 22) rfl rfl ?_
    refine wp_putI (pc' := 25) rfl rfl (by first | exact TK.k1 hT rfl | exact TK.kk hT rfl | exact TK.r hT rfl | assumption) (by omega) rfl ?_
    refine wp_iconst (v := nI 1) (pc' := 26) rfl rfl rfl ?_
    refine wp_iret rfl rfl (by first | rfl | exact nar_if) ?_
    first | (rw [rf_10u]; rw [hq, if_pos (show sgn tv T q c from ⟨h10.1, by omega⟩), if_pos (show sgn tv T q c from ⟨h10.1, by omega⟩)] at kk; exact kk) | (rw [hq, if_neg (show ¬ sgn tv T q c from fun z => h10 ⟨z.1, by have := z.2; omega, by have := z.2; omega⟩), if_neg (show ¬ sgn tv T q c from fun z => h10 ⟨z.1, by have := z.2; omega, by have := z.2; omega⟩)] at kk; exact kk)
  · intro h10
    refine wp_iconst (v := nI 0) (pc' := 14) rfl rfl rfl ?_
    refine wp_iret rfl rfl (by first | rfl | exact nar_if) ?_
    first | (rw [rf_10u]; rw [hq, if_pos (show sgn tv T q c from ⟨h10.1, by omega⟩), if_pos (show sgn tv T q c from ⟨h10.1, by omega⟩)] at kk; exact kk) | (rw [hq, if_neg (show ¬ sgn tv T q c from fun z => h10 ⟨z.1, by have := z.2; omega, by have := z.2; omega⟩), if_neg (show ¬ sgn tv T q c from fun z => h10 ⟨z.1, by have := z.2; omega, by have := z.2; omega⟩)] at kk; exact kk)
theorem m_isNumNext {d : Nat} {K : Nat → Nat × Nat} {I : Nat → Nat → Int32} {L : Nat → Nat → Int64} {R : Nat → Nat → Option Nat} {n s : Nat} {Q : Lo → Lm → Prop} {T p b : Nat} {tv : Nat → Nat} (hT : TK K R n) (hR : RfI I T tv) (hp : p ≤ T) (kk : Q (.inl (some (.int (if atDg tv T (skp tv T p) then nI 1 else nI 0)))) (K, rfM I (skp tv T p) (skp tv T p), L, R, n, s)) : Ok (d + 3) 230 [.ref 318] (K, rfM I p b, L, R, n, s) Q := by
  obtain ⟨-, -, hn⟩ := id hT
  refine Ok.enter (F := F_230) (ls := [.ref 318]) rfl rfl ?_
  refine wp_aload0 (pc' := 1) rfl rfl ?_
  refine wp_callV1 (pc' := 4) rfl rfl rfl rfl rfl (by first | exact TK.k1 hT rfl | exact TK.kk hT rfl | exact TK.r hT rfl | assumption) rfl rfl ?_
  refine m_blanksT hT hR hp ?_
  obtain ⟨q, hq⟩ : ∃ q, skp tv T p = q := ⟨_, rfl⟩
  have hqT := skp_ge (tv := tv) hp
  rw [hq] at hqT ⊢
  refine Cont.u ?_
  refine wp_aload0 (pc' := 5) rfl rfl ?_
  refine wp_bipush (v := nI 48) (pc' := 7) rfl rfl rfl ?_
  refine wp_bipush (v := nI 57) (pc' := 9) rfl rfl rfl ?_
  refine wp_callV3 (pc' := 12) rfl rfl rfl rfl rfl (by first | exact TK.k1 hT rfl | exact TK.kk hT rfl | exact TK.r hT rfl | assumption) rfl rfl ?_
  refine m_isAtT hT hR hqT.2 (by decide) (by decide) ?_
  refine Cont.v ?_
  refine wp_iret rfl rfl (by first | rfl | exact nar_if) ?_
  rw [hq] at kk
  exact kk
/-- digits as far as they were read -/
def dgI (tv : Nat → Nat) (T q e v : Nat) : Prop := (e - q ≤ 3 → dgN tv T q = dgF tv (min 4 (T - q) - (e - q)) e v ∧ v < 10 ^ (e - q)) ∧ (4 ≤ e - q → (dgN tv T q).1 = q + 4) ∧ v < 1000
theorem dgI_0 {tv : Nat → Nat} {T q : Nat} : dgI tv T q q 0 := ⟨fun _ => ⟨by rw [Nat.sub_self, Nat.sub_zero]; rfl, by rw [Nat.sub_self]; decide⟩, fun h => absurd h (by omega), by decide⟩
theorem dgI_s {tv : Nat → Nat} {T q e v : Nat} (hq : q ≤ e) (he : e < T) (hd : 48 ≤ tv e ∧ tv e ≤ 57) (h : dgI tv T q e v) : dgI tv T q (e + 1) (if e - q < 3 then 10 * v + (tv e - 48) else v) := by
  obtain ⟨h1, h2, h3⟩ := h
  by_cases c : e - q < 3
  · rw [if_pos c]
    obtain ⟨a1, a2⟩ := h1 (by omega)
    have hv := dg_pow hq a2 (show tv e - 48 ≤ 9 by omega)
    have hk : 10 ^ (e + 1 - q) ≤ 10 ^ 3 := Nat.pow_le_pow_right (by decide) (by omega)
    refine ⟨fun _ => ⟨?_, hv⟩, fun z => absurd z (by omega), by omega⟩
    rw [a1]
    obtain ⟨m, hm⟩ : ∃ m, min 4 (T - q) - (e - q) = m + 1 := ⟨min 4 (T - q) - (e - q) - 1, by omega⟩
    rw [hm, dgF, if_pos hd, show min 4 (T - q) - (e + 1 - q) = m by omega]
  · rw [if_neg c]
    refine ⟨fun z => absurd z (by omega), fun z => ?_, h3⟩
    by_cases c2 : e - q = 3
    · obtain ⟨a1, a2⟩ := h1 (by omega)
      rw [a1, show min 4 (T - q) - (e - q) = 0 + 1 by omega, dgF, if_pos hd]
      show e + 1 = q + 4
      omega
    · exact h2 (by omega)
theorem dgI_e {tv : Nat → Nat} {T q e v : Nat} (hq : q ≤ e) (he : e ≤ T) (hd : ¬ (e < T ∧ 48 ≤ tv e ∧ tv e ≤ 57)) (h : dgI tv T q e v) (h3 : e - q ≤ 3) : dgN tv T q = (e, v) := by
  rw [(h.1 h3).1]
  apply dg_end
  by_cases c : e = T
  · left; omega
  · right; exact fun z => hd ⟨by omega, z⟩
theorem num_n {tv : Nat → Nat} {T q : Nat} {lo hi : Int32} (h : (dgN tv T q).1 - q < 1 ∨ 3 < (dgN tv T q).1 - q ∨ nI (dgN tv T q).2 < lo ∨ hi < nI (dgN tv T q).2) : numR tv T q lo hi = none := if_pos h
theorem num_y {tv : Nat → Nat} {T q : Nat} {lo hi : Int32} (h : ¬ ((dgN tv T q).1 - q < 1 ∨ 3 < (dgN tv T q).1 - q ∨ nI (dgN tv T q).2 < lo ∨ hi < nI (dgN tv T q).2)) : numR tv T q lo hi = some ((dgN tv T q).2, skp tv T (dgN tv T q).1) := if_neg h
/-- where a number ends in the reference -/
def NuE (tv : Nat → Nat) (T q : Nat) (r : Option (Nat × Nat)) (e : Nat) : Prop := q ≤ e ∧ e ≤ T ∧ ∀ v z, r = some (v, z) → z = skp tv T e

section
variable {Q : Lo → Lm → Prop} {K : Nat → Nat × Nat} {I : Mem} {L : Nat → Nat → Int64} {R : Nat → Nat → Option Nat} {n s : Nat} {tv : Nat → Nat} {T q e v : Nat} {lw up : Int32}
theorem nu_1 (kk : ∀ e, NuE tv T q (numR tv T q lw up) e → Q (.inl (some (.int (numV (numR tv T q lw up))))) (K, rfM I e q, L, R, n, s)) (h0 : q ≤ e) (h1 : e ≤ T) (hd : ¬ (e < T ∧ 48 ≤ tv e ∧ tv e ≤ 57)) (h2 : dgI tv T q e v) (hT : T ≤ 400) (h73 : nI e = nI q) : Q (.inl (some (.int (-1)))) (K, rfM I e q, L, R, n, s) := by
  have he := eq_nI h73 (by omega) (by omega)
  have hN := num_n (lo := lw) (hi := up) (Or.inl (show (dgN tv T q).1 - q < 1 by rw [dgI_e h0 h1 hd h2 (by omega)]; show e - q < 1; omega))
  have k2 := kk e ⟨h0, h1, fun v2 z h => by rw [hN] at h; cases h⟩
  rw [hN] at k2
  exact k2
theorem nu_2 (kk : ∀ e, NuE tv T q (numR tv T q lw up) e → Q (.inl (some (.int (numV (numR tv T q lw up))))) (K, rfM I e q, L, R, n, s)) (h0 : q ≤ e) (h1 : e ≤ T) (hd : ¬ (e < T ∧ 48 ≤ tv e ∧ tv e ≤ 57)) (h2 : dgI tv T q e v) (hT : T ≤ 400) (h86 : nI 3 < nI (e - q)) : Q (.inl (some (.int (-1)))) (K, rfM I e q, L, R, n, s) := by
  have he := nI_lt_inv (by omega) (by omega) h86
  have hN := num_n (lo := lw) (hi := up) (Or.inr (Or.inl (show 3 < (dgN tv T q).1 - q by rw [h2.2.1 (by omega)]; omega)))
  have k2 := kk e ⟨h0, h1, fun v2 z h => by rw [hN] at h; cases h⟩
  rw [hN] at k2
  exact k2
theorem nu_3 (kk : ∀ e, NuE tv T q (numR tv T q lw up) e → Q (.inl (some (.int (numV (numR tv T q lw up))))) (K, rfM I e q, L, R, n, s)) (h0 : q ≤ e) (h1 : e ≤ T) (hd : ¬ (e < T ∧ 48 ≤ tv e ∧ tv e ≤ 57)) (h2 : dgI tv T q e v) (hT : T ≤ 400) (h86 : ¬ nI 3 < nI (e - q)) (h91 : nI v < lw ∨ up < nI v) : Q (.inl (some (.int (-1)))) (K, rfM I e q, L, R, n, s) := by
  have he := ge_nI h86 (by omega)
  have hN := num_n (tv := tv) (T := T) (q := q) (lo := lw) (hi := up) (by rw [dgI_e h0 h1 hd h2 he]; exact Or.inr (Or.inr h91))
  have k2 := kk e ⟨h0, h1, fun v2 z h => by rw [hN] at h; cases h⟩
  rw [hN] at k2
  exact k2
theorem nu_5 (kk : ∀ e, NuE tv T q (numR tv T q lw up) e → Q (.inl (some (.int (numV (numR tv T q lw up))))) (K, rfM I e q, L, R, n, s)) (h0 : q ≤ e) (h1 : e ≤ T) (hd : ¬ (e < T ∧ 48 ≤ tv e ∧ tv e ≤ 57)) (h2 : dgI tv T q e v) (hT : T ≤ 400) (h73 : ¬ nI e = nI q) (h86 : ¬ nI 3 < nI (e - q)) (h91 : ¬ nI v < lw) (h96 : ¬ up < nI v) : Q (.inl (some (.int (nI v)))) (K, rfM I e q, L, R, n, s) := by
  have he := ge_nI h86 (by omega)
  have hg := dgI_e h0 h1 hd h2 he
  have hne : ¬ e = q := fun z => h73 (by rw [z])
  have hX : ¬ ((dgN tv T q).1 - q < 1 ∨ 3 < (dgN tv T q).1 - q ∨ nI (dgN tv T q).2 < lw ∨ up < nI (dgN tv T q).2) := by
    rw [hg]
    rintro (z | z | z | z)
    · have z1 : e - q < 1 := z
      omega
    · have z1 : 3 < e - q := z
      omega
    · exact h91 z
    · exact h96 z
  have hN := num_y (tv := tv) (T := T) (q := q) (lo := lw) (hi := up) hX
  rw [hg] at hN
  have k2 := kk e ⟨h0, h1, fun v2 z h => by rw [hN] at h; cases h; rfl⟩
  rw [hN] at k2
  exact k2
end

theorem m_number {d : Nat} {K : Nat → Nat × Nat} {I : Nat → Nat → Int32} {L : Nat → Nat → Int64} {R : Nat → Nat → Option Nat} {n s : Nat} {Q : Lo → Lm → Prop} {T p b : Nat} {tv : Nat → Nat} {lw up : Int32} (hT : TK K R n) (hR : RfI I T tv) (hp : p ≤ T) (kk : ∀ e, NuE tv T (skp tv T p) (numR tv T (skp tv T p) lw up) e → Q (.inl (some (.int (numV (numR tv T (skp tv T p) lw up))))) (K, rfM I e (skp tv T p), L, R, n, s)) : Ok (d + 3) 229 [.ref 318, .int lw, .int up] (K, rfM I p b, L, R, n, s) Q := by
  obtain ⟨-, -, hn⟩ := id hT
  have hT4 := hR.2.1
  refine Ok.enter (F := F_229) (ls := [.ref 318, .int lw, .int up, lDead]) rfl rfl ?_
  refine wp_aload0 (pc' := 1) rfl rfl ?_
  refine wp_callV1 (pc' := 4) rfl rfl rfl rfl rfl (by first | exact TK.k1 hT rfl | exact TK.kk hT rfl | exact TK.r hT rfl | assumption) rfl rfl ?_
  refine m_blanksT hT hR hp ?_
  obtain ⟨q, hq⟩ : ∃ q, skp tv T p = q := ⟨_, rfl⟩
  have hqT := skp_ge (tv := tv) hp
  rw [hq] at hqT ⊢
  refine Cont.u ?_
  refine wp_iconst (v := nI 0) (pc' := 5) rfl rfl rfl ?_
  refine wp_istore3 (pc' := 6) rfl (by first | rfl | assumption) rfl ?_
  have lp6 : ∀ r (e v : Nat), T + 1 ≤ e + r → q ≤ e → e ≤ T → dgI tv T q e v → WP (d + 2) F_229 6 [.ref 318, .int lw, .int up, .int (nI v)] [] (K, rfM I e q, L, R, n, s) Q := by
    intro r; induction r with
    | zero =>
      intro e v hi hv0 hv1 hv2
      exact absurd hi (by omega)
    | succ r ih =>
      intro e v hi hv0 hv1 hv2
      refine wp_aload0 (pc' := 7) rfl rfl ?_
      refine wp_bipush (v := nI 48) (pc' := 9) rfl rfl rfl ?_
      refine wp_bipush (v := nI 57) (pc' := 11) rfl rfl rfl ?_
      refine wp_callV3 (pc' := 14) rfl rfl rfl rfl rfl (by first | exact TK.k1 hT rfl | exact TK.kk hT rfl | exact TK.r hT rfl | assumption) rfl rfl ?_
      refine m_isAtT hT hR hv1 (by decide) (by decide) ?_
      refine Cont.v ?_
      first | refine wp_ifeqB (pc' := 17) rfl rfl ?_ ?_ | refine wp_ifeq (pc' := 17) rfl rfl ?_ ?_
      · intro h14
        refine wp_aload0 (pc' := 66) rfl rfl ?_
        refine wp_getI (pc' := 69) rfl rfl (by first | exact TK.k1 hT rfl | exact TK.kk hT rfl | exact TK.r hT rfl | assumption) rfl ?_
        rw [rf_10]
        refine wp_aload0 (pc' := 70) rfl rfl ?_
        refine wp_getI (pc' := 73) rfl rfl (by first | exact TK.k1 hT rfl | exact TK.kk hT rfl | exact TK.r hT rfl | assumption) rfl ?_
        rw [rf_12]
        refine wp_icmpeq (pc' := 76) rfl rfl ?_ ?_
        · intro h73
          refine wp_iconst (v := (-1)) (pc' := 100) rfl rfl rfl ?_
          refine wp_goto rfl ?_
          refine wp_iret rfl rfl rfl ?_
          rw [hq] at kk
          first | exact nu_1 kk hv0 hv1 h14 hv2 hT4 h73 | exact nu_2 kk hv0 hv1 h14 hv2 hT4 h86 | exact nu_3 kk hv0 hv1 h14 hv2 hT4 h86 (Or.inl h91) | exact nu_3 kk hv0 hv1 h14 hv2 hT4 h86 (Or.inr h96) | exact nu_5 kk hv0 hv1 h14 hv2 hT4 h73 h86 h91 h96
        · intro h73
          refine wp_aload0 (pc' := 77) rfl rfl ?_
          refine wp_getI (pc' := 80) rfl rfl (by first | exact TK.k1 hT rfl | exact TK.kk hT rfl | exact TK.r hT rfl | assumption) rfl ?_
          rw [rf_10]
          refine wp_aload0 (pc' := 81) rfl rfl ?_
          refine wp_getI (pc' := 84) rfl rfl (by first | exact TK.k1 hT rfl | exact TK.kk hT rfl | exact TK.r hT rfl | assumption) rfl ?_
          rw [rf_12]
          first | refine wp_isubN (pc' := 85) rfl (by with_reducible rfl) (by with_reducible rfl) (by omega) rfl ?_ | refine wp_isub (pc' := 85) rfl rfl ?_
          refine wp_iconst (v := nI 3) (pc' := 86) rfl rfl rfl ?_
          refine wp_icmpgt (pc' := 89) rfl rfl ?_ ?_
          · intro h86
            refine wp_iconst (v := (-1)) (pc' := 100) rfl rfl rfl ?_
            refine wp_goto rfl ?_
            refine wp_iret rfl rfl rfl ?_
            rw [hq] at kk
            first | exact nu_1 kk hv0 hv1 h14 hv2 hT4 h73 | exact nu_2 kk hv0 hv1 h14 hv2 hT4 h86 | exact nu_3 kk hv0 hv1 h14 hv2 hT4 h86 (Or.inl h91) | exact nu_3 kk hv0 hv1 h14 hv2 hT4 h86 (Or.inr h96) | exact nu_5 kk hv0 hv1 h14 hv2 hT4 h73 h86 h91 h96
          · intro h86
            refine wp_iload3 (pc' := 90) rfl rfl ?_
            refine wp_iload1 (pc' := 91) rfl rfl ?_
            refine wp_icmplt (pc' := 94) rfl rfl ?_ ?_
            · intro h91
              refine wp_iconst (v := (-1)) (pc' := 100) rfl rfl rfl ?_
              refine wp_goto rfl ?_
              refine wp_iret rfl rfl rfl ?_
              rw [hq] at kk
              first | exact nu_1 kk hv0 hv1 h14 hv2 hT4 h73 | exact nu_2 kk hv0 hv1 h14 hv2 hT4 h86 | exact nu_3 kk hv0 hv1 h14 hv2 hT4 h86 (Or.inl h91) | exact nu_3 kk hv0 hv1 h14 hv2 hT4 h86 (Or.inr h96) | exact nu_5 kk hv0 hv1 h14 hv2 hT4 h73 h86 h91 h96
            · intro h91
              refine wp_iload3 (pc' := 95) rfl rfl ?_
              refine wp_iload2 (pc' := 96) rfl rfl ?_
              refine wp_icmple (pc' := 99) rfl rfl ?_ ?_
              · intro h96
                refine wp_iload3 (pc' := 104) rfl rfl ?_
                refine wp_iret rfl rfl rfl ?_
                rw [hq] at kk
                first | exact nu_1 kk hv0 hv1 h14 hv2 hT4 h73 | exact nu_2 kk hv0 hv1 h14 hv2 hT4 h86 | exact nu_3 kk hv0 hv1 h14 hv2 hT4 h86 (Or.inl h91) | exact nu_3 kk hv0 hv1 h14 hv2 hT4 h86 (Or.inr h96) | exact nu_5 kk hv0 hv1 h14 hv2 hT4 h73 h86 h91 h96
              · intro h96
                refine wp_iconst (v := (-1)) (pc' := 100) rfl rfl rfl ?_
                refine wp_goto rfl ?_
                refine wp_iret rfl rfl rfl ?_
                rw [hq] at kk
                first | exact nu_1 kk hv0 hv1 h14 hv2 hT4 h73 | exact nu_2 kk hv0 hv1 h14 hv2 hT4 h86 | exact nu_3 kk hv0 hv1 h14 hv2 hT4 h86 (Or.inl h91) | exact nu_3 kk hv0 hv1 h14 hv2 hT4 h86 (Or.inr h96) | exact nu_5 kk hv0 hv1 h14 hv2 hT4 h73 h86 h91 h96
      · intro h14
        have hde := h14.2
        refine wp_aload0 (pc' := 18) rfl rfl ?_
        refine wp_getI (pc' := 21) rfl rfl (by first | exact TK.k1 hT rfl | exact TK.kk hT rfl | exact TK.r hT rfl | assumption) rfl ?_
        rw [rf_10]
        refine wp_aload0 (pc' := 22) rfl rfl ?_
        refine wp_getI (pc' := 25) rfl rfl (by first | exact TK.k1 hT rfl | exact TK.kk hT rfl | exact TK.r hT rfl | assumption) rfl ?_
        rw [rf_12]
        first | refine wp_isubN (pc' := 26) rfl (by with_reducible rfl) (by with_reducible rfl) (by omega) rfl ?_ | refine wp_isub (pc' := 26) rfl rfl ?_
        refine wp_iconst (v := nI 3) (pc' := 27) rfl rfl rfl ?_
        refine wp_icmpge (pc' := 30) rfl rfl ?_ ?_
        · intro h27
          refine wp_iload3 (pc' := 51) rfl rfl ?_
          refine wp_istore3 (pc' := 52) rfl (by first | rfl | assumption) rfl ?_
          refine wp_aload0 (pc' := 53) rfl rfl ?_
          refine wp_dup (pc' := 54) rfl rfl rfl ?_
          refine wp_getI (pc' := 57) rfl rfl (by first | exact TK.k1 hT rfl | exact TK.kk hT rfl | exact TK.r hT rfl | assumption) rfl ?_
          rw [rf_10]
          refine wp_iconst (v := nI 1) (pc' := 58) rfl rfl rfl ?_
          first | refine wp_iaddN (pc' := 59) rfl (by with_reducible rfl) (by with_reducible rfl) rfl ?_ | refine wp_iadd (pc' := 59) rfl rfl ?_
          refine wp_putI (pc' := 62) rfl rfl (by first | exact TK.k1 hT rfl | exact TK.kk hT rfl | exact TK.r hT rfl | assumption) (by omega) rfl ?_
          refine wp_goto rfl ?_
          exact WP.cg (ih (e + 1) (if e - q < 3 then 10 * v + (tv e - 48) else v) (by omega) (by omega) (by have := h14.1; omega) (dgI_s hv0 h14.1 h14.2 hv2)) (lC1 (lI1 (by first | with_reducible rfl | (rw [if_pos (nI_lt_inv (by omega) (by omega) h27), ← Nat.add_sub_assoc hde.1]; done) | (rw [if_neg (fun z => h27 (nI_lt z (by omega)))]; done)) (lI1 (by first | with_reducible rfl | (rw [if_pos (nI_lt_inv (by omega) (by omega) h27), ← Nat.add_sub_assoc hde.1]; done) | (rw [if_neg (fun z => h27 (nI_lt z (by omega)))]; done)) (lI1 (by first | with_reducible rfl | (rw [if_pos (nI_lt_inv (by omega) (by omega) h27), ← Nat.add_sub_assoc hde.1]; done) | (rw [if_neg (fun z => h27 (nI_lt z (by omega)))]; done)) rfl)))) rfl (by rw [rf_10u])
        · intro h27
          refine wp_bipush (v := nI 10) (pc' := 32) rfl rfl rfl ?_
          refine wp_iload3 (pc' := 33) rfl rfl ?_
          first | refine wp_imulN (pc' := 34) rfl (by with_reducible rfl) (by with_reducible rfl) rfl ?_ | refine wp_imul (pc' := 34) rfl rfl ?_
          refine wp_aload0 (pc' := 35) rfl rfl ?_
          refine wp_getRF (pc' := 38) rfl rfl (by first | exact TK.k1 hT rfl | exact TK.kk hT rfl | exact TK.r hT rfl | assumption) (by first | exact TK.k1 hT rfl | exact TK.kk hT rfl | exact TK.r hT rfl | assumption) rfl ?_
          refine wp_aload0 (pc' := 39) rfl rfl ?_
          refine wp_getI (pc' := 42) rfl rfl (by first | exact TK.k1 hT rfl | exact TK.kk hT rfl | exact TK.r hT rfl | assumption) rfl ?_
          rw [rf_10]
          first | refine wp_bald _ (pc' := 43) rfl (by first | exact TK.k1 hT rfl | exact TK.kk hT rfl | exact TK.r hT rfl | assumption) (by with_reducible rfl) (by omega) (by first | decide | assumption | omega) rfl ?_ | refine wp_zald _ (pc' := 43) rfl (by first | exact TK.k1 hT rfl | exact TK.kk hT rfl | exact TK.r hT rfl | assumption) (by with_reducible rfl) (by omega) (by first | decide | assumption | omega) rfl ?_
          rw [rf_o (by decide), (hR.2.2 _ (by omega)).1, sb_lo (by omega)]
          first | refine wp_iaddN (pc' := 44) rfl (by with_reducible rfl) (by with_reducible rfl) rfl ?_ | refine wp_iadd (pc' := 44) rfl rfl ?_
          refine wp_bipush (v := nI 48) (pc' := 46) rfl rfl rfl ?_
          first | refine wp_isubN (pc' := 47) rfl (by with_reducible rfl) (by with_reducible rfl) (by omega) rfl ?_ | refine wp_isub (pc' := 47) rfl rfl ?_
          refine wp_goto rfl ?_
          refine wp_istore3 (pc' := 52) rfl (by first | rfl | assumption) rfl ?_
          refine wp_aload0 (pc' := 53) rfl rfl ?_
          refine wp_dup (pc' := 54) rfl rfl rfl ?_
          refine wp_getI (pc' := 57) rfl rfl (by first | exact TK.k1 hT rfl | exact TK.kk hT rfl | exact TK.r hT rfl | assumption) rfl ?_
          rw [rf_10]
          refine wp_iconst (v := nI 1) (pc' := 58) rfl rfl rfl ?_
          first | refine wp_iaddN (pc' := 59) rfl (by with_reducible rfl) (by with_reducible rfl) rfl ?_ | refine wp_iadd (pc' := 59) rfl rfl ?_
          refine wp_putI (pc' := 62) rfl rfl (by first | exact TK.k1 hT rfl | exact TK.kk hT rfl | exact TK.r hT rfl | assumption) (by omega) rfl ?_
          refine wp_goto rfl ?_
          exact WP.cg (ih (e + 1) (if e - q < 3 then 10 * v + (tv e - 48) else v) (by omega) (by omega) (by have := h14.1; omega) (dgI_s hv0 h14.1 h14.2 hv2)) (lC1 (lI1 (by first | with_reducible rfl | (rw [if_pos (nI_lt_inv (by omega) (by omega) h27), ← Nat.add_sub_assoc hde.1]; done) | (rw [if_neg (fun z => h27 (nI_lt z (by omega)))]; done)) (lI1 (by first | with_reducible rfl | (rw [if_pos (nI_lt_inv (by omega) (by omega) h27), ← Nat.add_sub_assoc hde.1]; done) | (rw [if_neg (fun z => h27 (nI_lt z (by omega)))]; done)) (lI1 (by first | with_reducible rfl | (rw [if_pos (nI_lt_inv (by omega) (by omega) h27), ← Nat.add_sub_assoc hde.1]; done) | (rw [if_neg (fun z => h27 (nI_lt z (by omega)))]; done)) rfl)))) rfl (by rw [rf_10u])
  exact WP.cg (lp6 (T + 1) q 0 (by omega) (Nat.le_refl _) hqT.2 dgI_0) (lC1 (lI1 (by rfl) (lI1 (by rfl) (lI1 (by rfl) rfl)))) rfl (by rfl)
