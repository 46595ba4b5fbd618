/-! PAIRS: ditches, ways, carting -/
theorem dr_ex {w : Nat → Int32} (h : DrB w) : ∃ dr : Nat → Nat, DrW w dr := by
  have hh : ∀ c : Nat, ∃ a, c < 25 → w (9 + 6 * c + 2) = nI a ∧ a ≤ 1 := fun c => by
    by_cases q : c < 25
    · rcases h c q with e | e
      · exact ⟨0, fun _ => ⟨e, by decide⟩⟩
      · exact ⟨1, fun _ => ⟨e, by decide⟩⟩
    · exact ⟨0, fun z => absurd z q⟩
  exact ⟨fun c => Classical.choose (hh c), fun c hc => Classical.choose_spec (hh c) hc⟩
theorem dr_bit {w : Nat → Int32} {dr : Nat → Nat} (h : DrB w) (hd : DrW w dr) {c : Nat} (hc : c < 25) : btI (drW w 25) c = true ↔ dr c = 1 := by
  rw [dr_bt h hc, decide_eq_true_iff, (hd c hc).1]
  have := (hd c hc).2
  exact ⟨fun e => eq_nI e (by omega) (by decide), fun e => by rw [e]⟩
/-- cells within a number of drains, closed by drains -/
theorem dit_cl {D y : Int32} {dr a : Nat → Nat} {i : Nat} (hD : ∀ c, c < 25 → (btI D c = true ↔ dr c = 1)) (hdr : ∀ c, c < 25 → dr c ≤ 1) (hF : FixI (ditK dr) (ditU dr) a) (hi : i < 1000) (hy : low25 y) (s1 : ∀ c, c < 25 → btI y c = true → a c ≤ i) (s2 : ∀ c, c < 25 → a c < i → btI y c = true) (s3 : ∀ c q, c < 25 → q < 25 → a q < i → hasP (besB c) q → btI y c = true) (s4 : btI y 24 = true ∨ (i = 0 ∧ dr 24 = 0)) : ∀ c, c < 25 → (btI (itC D y 25) c = true ↔ a c ≤ i) := by
  have hsub : ∀ c, btI y c = true → btI (itC D y 25) c = true := fun c e => it_mono (i := 0) e 25 (by decide)
  have hfix := it_fix (a := D) hy
  have hYl := low25_it (a := D) hy 25
  have sound : ∀ k c, c < 25 → btI (itC D y k) c = true → a c ≤ i := by
    intro k
    induction k with
    | zero => exact s1
    | succ k ih =>
      intro c hc e
      rw [itC_s] at e
      rcases (more_iff (low25_it hy k) hc).mp e with q | ⟨q, x, x1, x2, x3⟩
      · exact ih c hc q
      · have h1 := hF.1.2 c x hc x1 ((hasP_bt (by omega)).mpr (by rw [bes_sym c hc x x1]; exact x3))
        have h2 := ih x x1 x2
        have h3 := (hD c hc).mp q
        unfold ditU at h1
        omega
  intro c0 hc0
  refine ⟨sound 25 c0 hc0, fun hle => ?_⟩
  apply Classical.byContradiction
  intro hn
  have hz : ∀ j, j < 25 → a j ≤ i → ¬ btI (itC D y 25) j = true → a j = i := fun j hj h1 h2 => by
    apply Classical.byContradiction
    intro e
    exact h2 (hsub j (s2 j hj (by omega)))
  have hA : Adm (ditK dr) (ditU dr) (fun j => @ite _ (a j ≤ i ∧ ¬ btI (itC D y 25) j = true) (Classical.propDecidable _) (a j + 1) (a j)) := by
    refine ⟨fun j hj => ?_, fun c q hc hq hb => ?_⟩
    · dsimp only
      by_cases e : a j ≤ i ∧ ¬ btI (itC D y 25) j = true
      · rw [if_pos e, hz j hj e.1 e.2]
        unfold ditK
        by_cases z : j = 24
        · subst z
          rcases s4 with q | ⟨q1, q2⟩
          · exact absurd (hsub 24 q) e.2
          · rw [if_pos rfl, q1, q2]; omega
        · rw [if_neg z]; omega
      · rw [if_neg e]; exact hF.1.1 j hj
    · dsimp only
      have hcq := hF.1.2 c q hc hq hb
      by_cases e : a c ≤ i ∧ ¬ btI (itC D y 25) c = true
      · rw [if_pos e]
        by_cases z : a q ≤ i ∧ ¬ btI (itC D y 25) q = true
        · rw [if_pos z]; omega
        · rw [if_neg z]
          have hci := hz c hc e.1 e.2
          by_cases y1 : a q ≤ i
          · have hqY : btI (itC D y 25) q = true := by
              apply Classical.byContradiction
              intro w; exact z ⟨y1, w⟩
            have hqi : a q = i := by
              apply Classical.byContradiction
              intro w
              exact e.2 (hsub c (s3 c q hc hq (by omega) hb))
            have hd0 : ¬ dr c = 1 := fun w => by
              have := (more_iff (a := D) hYl hc).mpr (Or.inr ⟨(hD c hc).mpr w, q, hq, hqY, by rw [bes_sym q hq c hc]; exact (hasP_bt (by omega)).mp hb⟩)
              rw [hfix] at this
              exact e.2 this
            have := hdr c hc
            unfold ditU
            omega
          · omega
      · rw [if_neg e]
        by_cases z : a q ≤ i ∧ ¬ btI (itC D y 25) q = true
        · rw [if_pos z]; omega
        · rw [if_neg z]; exact hcq
  have := hF.2 _ hA c0 hc0
  rw [if_pos ⟨hle, hn⟩] at this
  omega
theorem bt_24 {j : Nat} (hj : j < 32) : btI (nI 16777216) j = decide (j = 24) := by
  rw [show nI 16777216 = jshl (nI 1) (nI 24) by decide]; exact bt_s1 24 (by decide) j hj
theorem dit_0 {D : Int32} {dr a : Nat → Nat} (hD : ∀ c, c < 25 → (btI D c = true ↔ dr c = 1)) (hdr : ∀ c, c < 25 → dr c ≤ 1) (hF : FixI (ditK dr) (ditU dr) a) : ∀ c, c < 25 → (btI (drainC D) c = true ↔ a c ≤ 0) := by
  have hl : low25 (jshl (nI 1) (nI 24) &&& D) := low25_and (low25_s1 (by decide))
  have hy : ∀ c, c < 25 → (btI (jshl (nI 1) (nI 24) &&& D) c = true ↔ c = 24 ∧ dr 24 = 1) := fun c hc => by
    rw [b_and, bt_s1 24 (by decide) c (by omega), Bool.and_eq_true, decide_eq_true_iff]
    exact ⟨fun ⟨e, f⟩ => ⟨e, by rw [e] at f; exact (hD 24 (by decide)).mp f⟩, fun ⟨e, f⟩ => ⟨e, by rw [e]; exact (hD 24 (by decide)).mpr f⟩⟩
  have h24 := hF.1.1 24 (by decide)
  unfold ditK at h24
  rw [if_pos rfl] at h24
  rw [drain_eq]
  unfold pieC
  rw [pieN_it hl]
  refine dit_cl hD hdr hF (by decide) hl (fun c hc e => ?_) (fun c _ e => absurd e (by omega)) (fun c q _ _ e => absurd e (by omega)) ?_
  · obtain ⟨e1, e2⟩ := (hy c hc).mp e
    rw [e1]; omega
  · by_cases q : dr 24 = 1
    · exact Or.inl ((hy 24 (by decide)).mpr ⟨rfl, q⟩)
    · exact Or.inr ⟨rfl, by have := hdr 24 (by decide); omega⟩
theorem dit_s {D x : Int32} {dr a : Nat → Nat} {i : Nat} (hD : ∀ c, c < 25 → (btI D c = true ↔ dr c = 1)) (hdr : ∀ c, c < 25 → dr c ≤ 1) (hF : FixI (ditK dr) (ditU dr) a) (hi : i < 100) (hx : low25 x) (h : ∀ c, c < 25 → (btI x c = true ↔ a c ≤ i)) : low25 (ditS D x) ∧ ∀ c, c < 25 → (btI (ditS D x) c = true ↔ a c ≤ i + 1) := by
  have h24 := hF.1.1 24 (by decide)
  unfold ditK at h24
  rw [if_pos rfl] at h24
  have hl : low25 (x ||| besideC x ||| nI 16777216) := low25_or (low25_or hx low25_bes) (by unfold low25; decide)
  have hy : ∀ c, c < 25 → (btI (x ||| besideC x ||| nI 16777216) c = true ↔ btI x c = true ∨ btI (besideC x) c = true ∨ c = 24) := fun c hc => by
    rw [b_or, b_or, bt_24 (by omega), Bool.or_eq_true, Bool.or_eq_true, decide_eq_true_iff, or_assoc]
  unfold ditS
  rw [spread_it]
  refine ⟨low25_it hl 25, dit_cl hD hdr hF (by omega) hl (fun c hc e => ?_) (fun c hc e => ?_) (fun c q hc hq e hb => ?_) (Or.inl ((hy 24 (by decide)).mpr (Or.inr (Or.inr rfl))))⟩
  · rcases (hy c hc).mp e with q | q | q
    · have := (h c hc).mp q; omega
    · obtain ⟨z, z1, z2, z3⟩ := (beside_iff hx hc).mp q
      have h1 := hF.1.2 c z hc z1 ((hasP_bt (by omega)).mpr (by rw [bes_sym c hc z z1]; exact z3))
      have h2 := (h z z1).mp z2
      unfold ditU at h1
      omega
    · rw [q]; omega
  · exact (hy c hc).mpr (Or.inl ((h c hc).mpr (by omega)))
  · exact (hy c hc).mpr (Or.inr (Or.inl ((beside_iff hx hc).mpr ⟨q, hq, (h q hq).mpr (by omega), by rw [bes_sym q hq c hc]; exact (hasP_bt (by omega)).mp hb⟩)))
theorem dit_f {D : Int32} {dr a : Nat → Nat} {c : Nat} (hD : ∀ c, c < 25 → (btI D c = true ↔ dr c = 1)) (hdr : ∀ c, c < 25 → dr c ≤ 1) (hF : FixI (ditK dr) (ditU dr) a) (hc : c < 25) : ∀ r i x, low25 x → (∀ c, c < 25 → (btI x c = true ↔ a c ≤ i)) → i ≤ a c → a c < i + r → i + r < 100 → ditF D c r i x = nI (a c)
  | 0 => fun i x _ _ h1 h2 _ => absurd h2 (by omega)
  | r + 1 => fun i x hx h h1 h2 h3 => by
    unfold ditF
    by_cases q : hasP x c
    · rw [if_pos q]
      have := (h c hc).mp ((hasP_bt (by omega)).mp q)
      rw [show i = a c by omega]
    · rw [if_neg q]
      have hn : ¬ a c ≤ i := fun e => q ((hasP_bt (by omega)).mpr ((h c hc).mpr e))
      obtain ⟨s1, s2⟩ := dit_s hD hdr hF (by omega) hx h
      exact dit_f hD hdr hF hc r (i + 1) _ s1 s2 (by omega) (by omega) (by omega)
theorem dit_eq {D : Int32} {dr a : Nat → Nat} {c : Nat} (hD : ∀ c, c < 25 → (btI D c = true ↔ dr c = 1)) (hdr : ∀ c, c < 25 → dr c ≤ 1) (hF : FixI (ditK dr) (ditU dr) a) (hc : c < 25) : ditF D c 26 0 (drainC D) = nI (a c) := by
  have h24 := hF.1.1 24 (by decide)
  unfold ditK at h24
  rw [if_pos rfl] at h24
  have h8 := adm_8 (U := 1) hF.1 (fun c _ => by unfold ditU; omega) hc (show 24 < 25 by decide)
  exact dit_f hD hdr hF hc 26 0 _ (low_drain D) (dit_0 hD hdr hF) (Nat.zero_le _) (by omega) (by omega)
/-! ways -/
def stW (sk : Nat → Nat) (q : Nat) : Nat := if q < 5 then 1000 * sk q else 100000000
def stR (sk : Nat → Nat) (q : Nat) : Nat := if q < 5 then 32 * sk q else 1000000
def usR (sk : Nat → Nat) (q : Nat) : Nat := 32 * sk q + 1
theorem mn_5 (a : Nat → Nat) : mnN a 5 = min (min (min (min (min 100000000 (a 0)) (a 1)) (a 2)) (a 3)) (a 4) := rfl
theorem mn_le {a : Nat → Nat} {o : Nat} (ho : o < 5) : mnN a 5 ≤ a o := by
  rw [mn_5]
  have : o = 0 ∨ o = 1 ∨ o = 2 ∨ o = 3 ∨ o = 4 := by omega
  rcases this with rfl | rfl | rfl | rfl | rfl <;> omega
theorem mn_ge {a : Nat → Nat} {x : Nat} (h : x ≤ 100000000) (ha : ∀ o, o < 5 → x ≤ a o) : x ≤ mnN a 5 := by
  rw [mn_5]
  have := ha 0 (by decide); have := ha 1 (by decide); have := ha 2 (by decide); have := ha 3 (by decide); have := ha 4 (by decide)
  omega
theorem mn_at (a : Nat → Nat) : mnN a 5 = 100000000 ∨ ∃ o, o < 5 ∧ mnN a 5 = a o := by
  rw [mn_5]
  by_cases h0 : min (min (min (min (min 100000000 (a 0)) (a 1)) (a 2)) (a 3)) (a 4) = 100000000
  · exact Or.inl h0
  · right
    by_cases e0 : min (min (min (min (min 100000000 (a 0)) (a 1)) (a 2)) (a 3)) (a 4) = a 0
    · exact ⟨0, by decide, e0⟩
    · by_cases e1 : min (min (min (min (min 100000000 (a 0)) (a 1)) (a 2)) (a 3)) (a 4) = a 1
      · exact ⟨1, by decide, e1⟩
      · by_cases e2 : min (min (min (min (min 100000000 (a 0)) (a 1)) (a 2)) (a 3)) (a 4) = a 2
        · exact ⟨2, by decide, e2⟩
        · by_cases e3 : min (min (min (min (min 100000000 (a 0)) (a 1)) (a 2)) (a 3)) (a 4) = a 3
          · exact ⟨3, by decide, e3⟩
          · exact ⟨4, by decide, by omega⟩
theorem way_h {sk h A : Nat → Nat} {c : Nat} (hc : c < 25) (hs : ∀ q, q < 25 → sk q ≤ 249) (hh : FixI (stW sk) (wayU sk) h) (hA : FixI (wayK sk c) (wayU sk) A) : mnN A 5 = h c := by
  have hh8 : ∀ q, q < 25 → h q ≤ 100000000 := fun q hq => by
    have := hh.1.1 q hq
    have := hs q hq
    unfold stW at *
    split at * <;> omega
  refine Nat.le_antisymm ?_ ?_
  · -- the least one is admissible
    have hex : ∀ p : Nat, ∃ a, FixI (wayK sk p) (wayU sk) a := fun p => fix_ex _ _
    have hP : ∀ p, FixI (wayK sk p) (wayU sk) (Classical.choose (hex p)) := fun p => Classical.choose_spec (hex p)
    generalize hB : (fun p => Classical.choose (hex p)) = B at *
    have hP2 : ∀ p, FixI (wayK sk p) (wayU sk) (B p) := fun p => by rw [← hB]; exact hP p
    have hW : Adm (stW sk) (wayU sk) (fun p => mnN (B p) 5) := by
      refine ⟨fun q hq => ?_, fun x p hx hp hb => ?_⟩
      · show mnN (B q) 5 ≤ stW sk q
        unfold stW
        by_cases z : q < 5
        · rw [if_pos z]
          have h1 := mn_le (a := B q) z
          have h2 := (hP2 q).1.1 q hq
          unfold wayK at h2
          rw [if_pos rfl] at h2
          omega
        · rw [if_neg z, mn_5]; omega
      · show mnN (B x) 5 ≤ mnN (B p) 5 + wayU sk x
        have hg : Adm (wayK sk p) (wayU sk) (fun q => B x q - wayU sk x) := by
          have hxx := (hP2 x).1.1 x hx
          unfold wayK at hxx
          rw [if_pos rfl] at hxx
          have hpx := (hP2 x).1.2 p x hp hx (bes_sm ⟨x, hx⟩ ⟨p, hp⟩ hb)
          refine ⟨fun q hq => ?_, fun y q hy hq hb2 => ?_⟩
          · show B x q - wayU sk x ≤ wayK sk p q
            unfold wayK
            by_cases z : q = p
            · rw [if_pos z, z]
              unfold wayU at hpx ⊢
              omega
            · rw [if_neg z]
              have := (hP2 x).1.1 q hq
              have := hs x hx
              unfold wayK at this
              have h2 := (hP2 x).1.1 q hq
              unfold wayK at h2
              split at h2 <;> omega
          · show B x y - wayU sk x ≤ B x q - wayU sk x + wayU sk y
            have := (hP2 x).1.2 y q hy hq hb2
            omega
        have hle : ∀ q, q < 25 → B x q - wayU sk x ≤ B p q := fun q hq => (hP2 p).2 _ hg q hq
        rcases mn_at (B p) with e | ⟨o, o1, o2⟩
        · rw [e, mn_5]; omega
        · rw [o2]
          have h1 := mn_le (a := B x) o1
          have h2 := hle o (by omega)
          omega
    have h1 := hh.2 _ hW c hc
    have h2 : ∀ q, q < 25 → B c q = A q := fix_un (hP2 c) hA
    have h3 : mnN (B c) 5 = mnN A 5 := by rw [mn_5, mn_5, h2 0 (by decide), h2 1 (by decide), h2 2 (by decide), h2 3 (by decide), h2 4 (by decide)]
    omega
  · refine mn_ge (hh8 c hc) (fun o ho => ?_)
    have hg : Adm (wayK sk c) (wayU sk) (fun q => h c + 1000 * sk q - h q) := by
      refine ⟨fun q hq => ?_, fun x q hx hq hb => ?_⟩
      · show h c + 1000 * sk q - h q ≤ wayK sk c q
        unfold wayK
        by_cases z : q = c
        · rw [if_pos z, z]; omega
        · rw [if_neg z]
          have h1 := adm_8 (U := 249001) hh.1 (fun q hq => by have := hs q hq; unfold wayU; omega) hc hq
          have := hs q hq
          omega
      · show h c + 1000 * sk x - h x ≤ h c + 1000 * sk q - h q + wayU sk x
        have h1 := hh.1.2 q x hq hx (bes_sm ⟨x, hx⟩ ⟨q, hq⟩ hb)
        unfold wayU at h1 ⊢
        omega
    have h1 := hA.2 _ hg o (by omega)
    have h2 := hh.1.1 o (by omega)
    unfold stW at h2
    rw [if_pos ho] at h2
    omega
theorem cnt_25 {P : Nat → Prop} [∀ i, Decidable (P i)] {x : Nat} (hx : x < 25) (hp : ¬ P x) : cntL P 25 ≤ 24 := by
  have h := cnt_lt (P := P) (Q := fun _ => True) (x := x) trivial hp 25 hx (fun _ _ _ => trivial)
  have := cnt_n (P := fun _ => True) 25
  omega
theorem way_R {sk h : Nat → Nat} (hs : ∀ q, q < 25 → sk q ≤ 249) (hh : FixI (stW sk) (wayU sk) h) : (∀ c, c < 25 → h c % 1000 ≤ 24 ∧ h c / 1000 ≤ 2500) ∧ FixI (stR sk) (usR sk) (fun c => 32 * (h c / 1000) + h c % 1000) := by
  have hub : ∀ q, q < 25 → wayU sk q ≤ 249001 := fun q hq => by have := hs q hq; unfold wayU; omega
  have h0 : h 0 ≤ 249000 := by
    have := hh.1.1 0 (by decide)
    have := hs 0 (by decide)
    unfold stW at *
    rw [if_pos (by decide)] at *
    omega
  have hb : ∀ c, c < 25 → h c ≤ 2241008 := fun c hc => by
    have := adm_8 hh.1 hub hc (show 0 < 25 by decide)
    omega
  have ht : ∀ c, c < 25 → (c < 5 ∧ h c = 1000 * sk c) ∨ ∃ q, q < 25 ∧ hasP (besB c) q ∧ h c = h q + (1000 * sk c + 1) := fun c hc => by
    rcases fix_tight hh hc with e | e
    · left
      unfold stW at e
      by_cases z : c < 5
      · rw [if_pos z] at e; exact ⟨z, e⟩
      · rw [if_neg z] at e
        have := hb c hc
        omega
    · exact Or.inr e
  have hL : ∀ v c, c < 25 → h c = v → h c % 1000 ≤ cntL (fun q => h q < h c) 25 := by
    intro v
    induction v using Nat.strongRecOn with
    | ind v ih =>
      intro c hc hv
      rcases ht c hc with ⟨-, e⟩ | ⟨q, q1, q2, q3⟩
      · omega
      · have i1 := ih (h q) (by omega) q q1 rfl
        have i2 := cnt_25 (P := fun x => h x < h q) q1 (by omega)
        have i3 := cnt_lt (P := fun x => h x < h q) (Q := fun x => h x < h c) (x := q) (by omega) (by omega) 25 q1 (fun j _ hj => by omega)
        omega
  have hL24 : ∀ c, c < 25 → h c % 1000 ≤ 24 := fun c hc => Nat.le_trans (hL (h c) c hc rfl) (cnt_25 (P := fun x => h x < h c) hc (by omega))
  refine ⟨fun c hc => ⟨hL24 c hc, by have := hb c hc; omega⟩, ⟨fun q hq => ?_, fun c q hc hq hbe => ?_⟩, fun g hg => ?_⟩
  · show 32 * (h q / 1000) + h q % 1000 ≤ stR sk q
    have h1 := hL24 q hq
    have h2 := hb q hq
    have h3 := hh.1.1 q hq
    unfold stW at h3
    unfold stR
    by_cases z : q < 5
    · rw [if_pos z] at h3 ⊢; omega
    · rw [if_neg z]; omega
  · show 32 * (h c / 1000) + h c % 1000 ≤ 32 * (h q / 1000) + h q % 1000 + usR sk c
    have h1 := hL24 q hq
    have h2 := hL24 c hc
    have h3 := hh.1.2 c q hc hq hbe
    unfold wayU at h3
    unfold usR
    omega
  · have key : ∀ v c, c < 25 → h c = v → g c ≤ 32 * (h c / 1000) + h c % 1000 := by
      intro v
      induction v using Nat.strongRecOn with
      | ind v ih =>
        intro c hc hv
        rcases ht c hc with ⟨z, e⟩ | ⟨q, q1, q2, q3⟩
        · have := hg.1 c hc
          unfold stR at this
          rw [if_pos z] at this
          omega
        · have i1 := ih (h q) (by omega) q q1 rfl
          have i2 := hg.2 c q hc q1 q2
          have i3 := hL24 q q1
          unfold usR at i2
          omega
    exact fun q hq => key (h q) q hq rfl
/-- a way, in both -/
theorem way_eq {sk A r : Nat → Nat} {c : Nat} (hc : c < 25) (hs : ∀ q, q < 25 → sk q ≤ 249) (hA : FixI (wayK sk c) (wayU sk) A) (hr : FixI (stR sk) (usR sk) r) : r c / 32 = mnN A 5 / 1000 ∧ r c % 32 = mnN A 5 % 1000 ∧ r c ≤ 100000 := by
  obtain ⟨h, hh⟩ := fix_ex (stW sk) (wayU sk)
  obtain ⟨h1, h2⟩ := way_R hs hh
  have e := fix_un hr h2 c hc
  rw [e, way_h hc hs hh hA]
  have := h1 c hc
  omega
theorem amt_bd {w : Nat → Int32} {c m : Nat} {kd : Int32} {b0 b1 : Nat → Nat} {v : Nat → Int32} (h : ∀ l, l < m → Bd (w (484 + 4 * l + 1)) 20) : ∀ i, i ≤ m → i ≤ 12 → Bd (rtot w c kd b0 b1 v i).1 (20 * i)
  | 0 => fun _ _ => ⟨0, Nat.le_refl _, rfl⟩
  | i + 1 => fun hi h12 => by
    obtain ⟨a, a1, a2⟩ := amt_bd (c := c) (kd := kd) (b0 := b0) (b1 := b1) (v := v) h i (by omega) (by omega)
    obtain ⟨b, b1', b2⟩ := h i (by omega)
    show Bd (rtst w c kd b0 b1 i (rtot w c kd b0 b1 v i)).1 (20 * (i + 1))
    unfold rtst
    split
    · dsimp only
      split
      · rw [a2, b2, nI_add]; exact ⟨a + b, by omega, rfl⟩
      · rw [a2]; exact ⟨a, by omega, rfl⟩
    · rw [a2]; exact ⟨a, by omega, rfl⟩
theorem sink_bd {w : Nat → Int32} {H c : Nat} {ro : RwT} (hw : WB w H) (hr : RO w ro) (ha : AmB w ro) (hc : c < 25) : Bd (rsink w c ro) 249 := by
  obtain ⟨a, a1, a2⟩ := (hw.2.2.2.2.2.1 c hc).2.1
  unfold rsink
  rw [a2]
  match ro, hr, ha with
  | none, _, _ => show Bd (nI a + nI 0) 249; rw [add_0]; exact ⟨a, by omega, rfl⟩
  | some (m, b0, b1), hr, ha =>
    have hm := hr.2.2.1
    obtain ⟨b, b1', b2⟩ := amt_bd (c := c) (kd := nI 2) (b0 := b0) (b1 := b1) (v := fun _ => nI 0) ha m (Nat.le_refl _) hm
    show Bd (nI a + (rtot w c (nI 2) b0 b1 (fun _ => nI 0) m).1) 249
    rw [b2, nI_add]; exact ⟨a + b, by omega, rfl⟩
theorem sk_ex {w : Nat → Int32} {H : Nat} {ro : RwT} (hw : WB w H) (hr : RO w ro) (ha : AmB w ro) : ∃ sk : Nat → Nat, ∀ q, q < 25 → rsink w q ro = nI (sk q) ∧ sk q ≤ 249 := by
  have hh : ∀ c : Nat, ∃ a, c < 25 → rsink w c ro = nI a ∧ a ≤ 249 := fun c => by
    by_cases q : c < 25
    · obtain ⟨a, a1, a2⟩ := sink_bd hw hr ha q
      exact ⟨a, fun _ => ⟨a2, a1⟩⟩
    · exact ⟨0, fun z => absurd z q⟩
  exact ⟨fun c => Classical.choose (hh c), fun c hc => Classical.choose_spec (hh c) hc⟩
theorem rk_row {K : Nat → Nat × Nat} {R : Nat → Nat → Option Nat} {n : Nat} {I : Mem} {o : LawT} {w : Nat → Int32} {ro : RwT} {H : Nat} (hS : StR K R n I 1 o w ro H) : ∀ i, i ≤ 25 → ∀ c, c < i → rk1M I 1 (drainC (I 1 11)) o i 48 c = rsink w c ro ∧ rk1M I 1 (drainC (I 1 11)) o i 47 c = if c < 5 then rsink w c ro * nI 32 else nI 1000000
  | 0 => fun _ c hc => absurd hc (by omega)
  | i + 1 => fun hi c hc => by
    have ih := rk_row hS i (by omega)
    generalize hJ : rk1M I 1 (drainC (I 1 11)) o i = J at *
    have ho : ∀ a, a ≠ 47 → a ≠ 48 → offL o a → J a = I a := fun a h1 h2 h3 => by rw [← hJ]; exact rk1M_out h1 h2 h3 i
    have hrow : ∀ k, k < 12 → J (1 + k) = I (1 + k) := fun k hk => ho _ (by omega) (by omega) (rk_off hS.2.2.2.1 (by omega))
    obtain ⟨⟨a1, a2, a3, a4, a5, a6, a7⟩, -⟩ := ask_sim (c := i) hS.1 (by omega) hS.2.1.2.2.1
    have hA : AskS J 1 i (drainC (I 1 11)) w := by
      have r0 : J 1 = I 1 := hrow 0 (by decide)
      refine ⟨?_, ?_, ?_, ?_, ?_, a6, a7⟩
      · rw [hrow 1 (by decide)]; exact a1
      · rw [hrow 2 (by decide)]; exact a2
      · rw [hrow 3 (by decide)]; exact a3
      · rw [r0]; exact a4
      · rw [r0]; exact a5
    have hL : LawOO J 1 o w ro := lawOO_fr (r := R 1 18) hS.2.2.1 hS.2.2.2.1 (laD_me hS.2.2.1) (fun a q1 q2 q3 => ho a (by omega) (by omega) (off_of hS.2.2.1 q3)) hS.2.2.2.2.1
    have hv : (sinkF J 1 i (drainC (I 1 11)) o).1 = rsink w i ro := sink_eq hL hA (by omega)
    have hs47 : (sinkF J 1 i (drainC (I 1 11)) o).2 47 = J 47 := sinkF_out (rk_off hS.2.2.2.1 (by decide))
    have hs48 : (sinkF J 1 i (drainC (I 1 11)) o).2 48 = J 48 := sinkF_out (rk_off hS.2.2.2.1 (by decide))
    have hst : rk1M I 1 (drainC (I 1 11)) o (i + 1) = rk1S 1 (drainC (I 1 11)) o i J := by rw [← hJ]; rfl
    rw [hst]
    unfold rk1S
    rw [hv]
    constructor
    · rw [up2_row (by decide), up2_same]
      by_cases e : c = i
      · rw [if_pos e, e]
      · rw [if_neg e, hs48]; exact (ih c (by omega)).1
    · rw [up2_same]
      by_cases e : c = i
      · rw [if_pos e, e]
        by_cases z : i < 5
        · rw [if_pos z, if_pos (nI_lt z (by decide))]
        · rw [if_neg z, if_neg (nI_nlt (by omega) (by omega))]
      · rw [if_neg e, up2_row (by decide), hs47]; exact (ih c (by omega)).2
theorem rank_eq {K : Nat → Nat × Nat} {R : Nat → Nat → Option Nat} {n : Nat} {I : Mem} {o : LawT} {w : Nat → Int32} {ro : RwT} {H : Nat} {sk r : Nat → Nat} (hS : StR K R n I 1 o w ro H) (hsk : ∀ q, q < 25 → rsink w q ro = nI (sk q) ∧ sk q ≤ 249) (hr : FixI (stR sk) (usR sk) r) : ∀ c, c < 25 → rankM I 1 o 47 c = nI (r c) := by
  have hrow := rk_row hS 25 (Nat.le_refl _)
  unfold rankM
  intro c hc
  rw [upr_same]
  refine rlx_fix (us := usR sk) (st := stR sk) (by decide) (fun c m hc hm => ?_) (fun c hc => ?_) (fun j hj => ⟨?_, ?_⟩) (fun c hc => ?_) hr c hc
  · unfold rkF usR
    rw [(hrow c hc).1, (hsk c hc).1, nI_mul, nI_add, nI_add]
    congr 1; omega
  · have := (hsk c hc).2; unfold usR; omega
  · rw [(hrow j hj).2, (hsk j hj).1]
    unfold stR
    by_cases z : j < 5
    · rw [if_pos z, if_pos z, nI_mul, Nat.mul_comm]
    · rw [if_neg z, if_neg z]
  · have := (hsk j hj).2; unfold stR; split <;> omega
  · unfold stR usR; rw [if_pos hc]; omega
theorem sim_rank {N : Nat} {xs : Nat → Int32} {K : Nat → Nat × Nat} {I : Mem} {L : Nat → Nat → Int64} {R : Nat → Nat → Option Nat} {n : Nat} {o : LawT} {w : Nat → Int32} {ro : RwT} {H : Nat} (h : Sim N xs K I L R n) (hS : StR K R n I 1 o w ro H) : Sim N xs K (rankM I 1 o) L R n := by
  have hB := h.1
  obtain ⟨-, -, -, hT, -, h8, h13, -⟩ := id h
  have e : ∀ a, a ≠ 47 → a ≠ 48 → offL o a → rankM I 1 o a = I a := fun a h1 h2 h3 => by unfold rankM; rw [upr_ne h1]; exact rk1M_out h1 h2 h3 25
  have e2 : ∀ a, a ≠ 47 → a ≠ 48 → a < 338 → rankM I 1 o a = I a := fun a h1 h2 h3 => e a h1 h2 (rk_off hS.2.2.2.1 h3)
  refine sim_fr h ⟨fun _ _ => rfl, fun a q _ q2 => e a (by unfold Imp at q; omega) (by unfold Imp at q; omega) (off_of hS.2.2.1 q2), ⟨by rw [e2 0 (by decide) (by decide) (by decide)], by rw [e2 0 (by decide) (by decide) (by decide)], by rw [e2 318 (by decide) (by decide) (by decide)], by rw [e2 318 (by decide) (by decide) (by decide)], by rw [e2 44 (by decide) (by decide) (by decide)]⟩, fun _ _ => rfl, fun _ _ _ _ => rfl⟩ (Nat.le_refl _) hB.2.2.2.2.2 (tap_ag hT (by rw [e2 0 (by decide) (by decide) (by decide)]) (by rw [e2 318 (by decide) (by decide) (by decide)]) (e2 38 (by decide) (by decide) (by decide)) (e2 324 (by decide) (by decide) (by decide))) (by rw [e2 0 (by decide) (by decide) (by decide), e2 318 (by decide) (by decide) (by decide)]; exact h8) (nrm_ag h13 (fun a q1 q2 => e2 a (by omega) (by omega) (by omega)))
theorem o_cell11 {N d : Nat} {xs : Nat → Int32} {K : Nat → Nat × Nat} {I : Mem} {L : Nat → Nat → Int64} {R : Nat → Nat → Option Nat} {n s : Nat} {x : Int32} (h : Sim N xs K I L R n) (hn : n + 6 ≤ lmCells) (hs : s + 876 ≤ lmSlots) : Ok (d + 40) 106 [.ref 0, .int x, .int (nI 11), .ref 337] (K, I, L, R, n, s) (AftC N xs (d + 40) 255 [.ref 318, .int x, .int (nI 11)] n s false) := by
  obtain ⟨hB, ⟨o, ro, H, hS⟩, hK, hTp, ⟨p, A, Ss, hP, hA, hPs⟩, h8, h13, h25⟩ := id h
  have hT := hB.1
  have h338 := hT.2.2
  have hw := hS.2.1.1
  have hH6 := hS.2.1.2.1
  have hTe := fun ci => tk_ex (ci := ci) hT hB.2.2.2.2.2
  have hwe : upr I n (fun _ => (0 : Int32)) 319 0 = nI H := by rw [upr_ne (by omega)]; exact hw
  obtain ⟨dr, hdr⟩ := dr_ex hS.1.2.2.2
  refine w_cell (d := d + 38) (TK.k1 hT rfl) ?_
  refine c_cell11 (d := d + 34) (H := H) (o := o) hT (by omega) (by omega) (fun hx => ?_) (fun c hc hx => ?_)
  · exact wrq_e1 (mide hB) (m_cellE1 (d := d + 28) (hTe 16) hx (aft_e h hn (by decide)))
  · subst hx
    refine wrq_v hT (mid0 hB) (m_cell11 (d := d + 28) hT hc hdr (fun a ha M hM => ?_))
    rw [(sim_r0 hS.1).2.1, dit_eq (fun c hc => dr_bit hS.1.2.2.2 hdr hc) (fun c hc => (hdr c hc).2) ha hc]
    exact aft_J h hM
theorem o_cell12 {N d : Nat} {xs : Nat → Int32} {K : Nat → Nat × Nat} {I : Mem} {L : Nat → Nat → Int64} {R : Nat → Nat → Option Nat} {n s : Nat} {x : Int32} (h : Sim N xs K I L R n) (hn : n + 6 ≤ lmCells) (hs : s + 876 ≤ lmSlots) : Ok (d + 40) 106 [.ref 0, .int x, .int (nI 12), .ref 337] (K, I, L, R, n, s) (AftC N xs (d + 40) 255 [.ref 318, .int x, .int (nI 12)] n s false) := by
  obtain ⟨hB, ⟨o, ro, H, hS⟩, hK, hTp, ⟨p, A, Ss, hP, hA, hPs⟩, h8, h13, h25⟩ := id h
  have hT := hB.1
  have h338 := hT.2.2
  have hw := hS.2.1.1
  have hH6 := hS.2.1.2.1
  have hTe := fun ci => tk_ex (ci := ci) hT hB.2.2.2.2.2
  have hwe : upr I n (fun _ => (0 : Int32)) 319 0 = nI H := by rw [upr_ne (by omega)]; exact hw
  obtain ⟨sk, hsk⟩ := sk_ex hS.2.1 hS.2.2.2.2.2.1 hS.2.2.2.2.2.2
  obtain ⟨r, hr⟩ := fix_ex (stR sk) (usR sk)
  have h2 := sim_rank h hS
  have e9 : rankM I 1 o 319 = I 319 := rank_out hS.2.2.2.1 (by decide) (by decide) (by decide)
  refine w_cell (d := d + 38) (TK.k1 hT rfl) ?_
  refine c_cell12 (d := d + 31) (H := H) (o := o) hT (by omega) (by omega) hS.2.2.1 hS.2.2.2.1 (fun hx => ?_) (fun c hc hx => ?_)
  · exact wrq_e1 (mide hB) (m_cellE1 (d := d + 28) (hTe 16) hx (aft_e h hn (by decide)))
  · subst hx
    refine wrq_v hT (mid0 h2.1) (m_cell12 (d := d + 28) hT hc (o := ro) (by rw [e9]; exact hS.2.2.2.2.2.1) (sk := sk) (fun q hq => by rw [e9]; exact ⟨(hsk q hq).1, by have := (hsk q hq).2; omega⟩) (fun a ha M hM => ?_))
    have we := way_eq hc (fun q hq => (hsk q hq).2) ha hr
    rw [rank_eq hS hsk hr c hc, nI_div (by omega) (by decide), show r c / 32 = mnN a 5 / 1000 from we.1]
    exact aft_J h2 hM
theorem o_cell13 {N d : Nat} {xs : Nat → Int32} {K : Nat → Nat × Nat} {I : Mem} {L : Nat → Nat → Int64} {R : Nat → Nat → Option Nat} {n s : Nat} {x : Int32} (h : Sim N xs K I L R n) (hn : n + 6 ≤ lmCells) (hs : s + 876 ≤ lmSlots) : Ok (d + 40) 106 [.ref 0, .int x, .int (nI 13), .ref 337] (K, I, L, R, n, s) (AftC N xs (d + 40) 255 [.ref 318, .int x, .int (nI 13)] n s false) := by
  obtain ⟨hB, ⟨o, ro, H, hS⟩, hK, hTp, ⟨p, A, Ss, hP, hA, hPs⟩, h8, h13, h25⟩ := id h
  have hT := hB.1
  have h338 := hT.2.2
  have hw := hS.2.1.1
  have hH6 := hS.2.1.2.1
  have hTe := fun ci => tk_ex (ci := ci) hT hB.2.2.2.2.2
  have hwe : upr I n (fun _ => (0 : Int32)) 319 0 = nI H := by rw [upr_ne (by omega)]; exact hw
  obtain ⟨sk, hsk⟩ := sk_ex hS.2.1 hS.2.2.2.2.2.1 hS.2.2.2.2.2.2
  obtain ⟨r, hr⟩ := fix_ex (stR sk) (usR sk)
  have h2 := sim_rank h hS
  have e9 : rankM I 1 o 319 = I 319 := rank_out hS.2.2.2.1 (by decide) (by decide) (by decide)
  refine w_cell (d := d + 38) (TK.k1 hT rfl) ?_
  refine c_cell13 (d := d + 31) (H := H) (o := o) hT (by omega) (by omega) hS.2.2.1 hS.2.2.2.1 (fun hx => ?_) (fun c hc hx => ?_)
  · exact wrq_e1 (mide hB) (m_cellE1 (d := d + 28) (hTe 16) hx (aft_e h hn (by decide)))
  · subst hx
    refine wrq_v hT (mid0 h2.1) (m_cell13 (d := d + 28) hT hc (o := ro) (by rw [e9]; exact hS.2.2.2.2.2.1) (sk := sk) (fun q hq => by rw [e9]; exact ⟨(hsk q hq).1, by have := (hsk q hq).2; omega⟩) (fun a ha M hM => ?_))
    have we := way_eq hc (fun q hq => (hsk q hq).2) ha hr
    rw [rank_eq hS hsk hr c hc, nI_rem (by omega) (by decide), show r c % 32 = mnN a 5 % 1000 from we.2.1]
    exact aft_J h2 hM
theorem tol_cg {w w2 : Nat → Int32} {h c k t : Int32} (e : ∀ j, (j = 6 ∨ j = 7 ∨ 183 ≤ j) → w2 j = w j) : ∀ j, (j = 7 ∨ 183 ≤ j) → tolW w2 h c k t j = tolW w h c k t j := fun j hj => by
  have hs : shN 295 w2 j = shN 295 w j := by
    unfold shN
    split
    · exact e _ (by omega)
    · exact e _ (by omega)
  unfold tolW
  rw [e 6 (by omega), e 7 (by omega)]
  unfold up1
  rw [hs]
theorem car_w {w : Nat → Int32} {k c j : Nat} {v : Int32} (hk : k < 6) (hc : c < 25) (hj : j < 483) : tolW (up1 (up1 (up1 (up1 w (159 + 4 * k + 2) v) (9 + 6 * c + 3) (nI 0)) (9 + 6 * c + 4) (nI 0)) (9 + 6 * c + 5) (nI 0)) (nI k) (nI c) (nI 2) (w (9 + 6 * c + 3)) j = up1 (up1 (up1 (up1 (tolW w (nI k) (nI c) (nI 2) (w (9 + 6 * c + 3))) (159 + 4 * k + 2) v) (9 + 6 * c + 3) (nI 0)) (9 + 6 * c + 4) (nI 0)) (9 + 6 * c + 5) (nI 0) j := by
  by_cases z : j = 7 ∨ 183 ≤ j
  · rw [tol_cg (w := w) (fun i hi => by rw [up1_ne (by omega), up1_ne (by omega), up1_ne (by omega), up1_ne (by omega)]) j z, up1_ne (by omega), up1_ne (by omega), up1_ne (by omega), up1_ne (by omega)]
  · rw [tolW_lo (by omega) (by omega)]
    have e : tolW w (nI k) (nI c) (nI 2) (w (9 + 6 * c + 3)) j = w j := tolW_lo (by omega) (by omega)
    generalize tolW w (nI k) (nI c) (nI 2) (w (9 + 6 * c + 3)) = u at *
    by_cases q5 : j = 9 + 6 * c + 5
    · rw [q5, up1_hit, up1_hit]
    · rw [up1_ne q5, up1_ne q5]
      by_cases q4 : j = 9 + 6 * c + 4
      · rw [q4, up1_hit, up1_hit]
      · rw [up1_ne q4, up1_ne q4]
        by_cases q3 : j = 9 + 6 * c + 3
        · rw [q3, up1_hit, up1_hit]
        · rw [up1_ne q3, up1_ne q3]
          by_cases q2 : j = 159 + 4 * k + 2
          · rw [q2, up1_hit, up1_hit]
          · rw [up1_ne q2, up1_ne q2, e]
theorem cart_m {J : Mem} {k c q : Nat} : cartM J 1 k c q = up2 (up2 (up2 (up2 (wrM J 1 q (J 1 15) (nI k) (nI c) (nI 2) (J (1 + 3) c)) (1 + 8) k (jmin (wrM J 1 q (J 1 15) (nI k) (nI c) (nI 2) (J (1 + 3) c) (1 + 8) k + J (1 + 3) c) (nI 999))) (1 + 3) c (nI 0)) (1 + 4) c (nI 0)) (1 + 5) c (nI 0) := by
  unfold cartM addM; rfl
theorem sim_cart {J : Mem} {w : Nat → Int32} {k c q : Nat} (hs : SimS (vw 1 J) w) (hk : k < 6) (hc : c < 25) (hq : J (1 + 10) 1 = nI q) (hq6 : q < 60) : SimS (vw 1 (cartM J 1 k c q)) (carW w k c) := by
  have e3 : J (1 + 3) c = w (9 + 6 * c + 3) := sim_c3 hs hc
  have e15 : J 1 15 = w 6 := (sim_r0 hs).2.2.2.2.2.1
  have e8 : wrM J 1 q (J 1 15) (nI k) (nI c) (nI 2) (J (1 + 3) c) (1 + 8) k = w (159 + 4 * k + 2) := by rw [wrM_o (by decide) (by decide)]; exact sim_h8 hs hk
  have i4 : ∀ k, 1 ≤ k → k < 6 → inS k c = true := fun k h1 h2 => inS_25 h1 h2 hc
  rw [cart_m, e8, e3, e15, jmin_cm]
  generalize hv : jmin (nI 999) (w (159 + 4 * k + 2) + w (9 + 6 * c + 3)) = v
  have s0 : SimS (vw 1 (wrM J 1 q (w 6) (nI k) (nI c) (nI 2) (w (9 + 6 * c + 3)))) (tolW w (nI k) (nI c) (nI 2) (w (9 + 6 * c + 3))) := sim_wr hs hq hq6 rfl
  have hc2 : carW w k c = tolW (up1 (up1 (up1 (up1 w (159 + 4 * k + 2) v) (9 + 6 * c + 3) (nI 0)) (9 + 6 * c + 4) (nI 0)) (9 + 6 * c + 5) (nI 0)) (nI k) (nI c) (nI 2) (w (9 + 6 * c + 3)) := by unfold carW; rw [hv]
  rw [hc2]
  generalize wrM J 1 q (w 6) (nI k) (nI c) (nI 2) (w (9 + 6 * c + 3)) = M at s0 ⊢
  refine sim_w ?_ (fun j hj _ => car_w hk hc hj)
  generalize tolW w (nI k) (nI c) (nI 2) (w (9 + 6 * c + 3)) = u at s0 ⊢
  have s1 : SimS (vw 1 (up2 M (1 + 8) k v)) (up1 u (159 + 4 * k + 2) v) := sim_putv s0 (k := 8) (by decide) (inS_6 (by decide) (by decide) hk) (by omega) rfl
  have s3 : SimS (vw 1 (up2 (up2 M (1 + 8) k v) (1 + 3) c (nI 0))) (up1 (up1 u (159 + 4 * k + 2) v) (9 + 6 * c + 3) (nI 0)) := sim_putv s1 (k := 3) (by decide) (i4 3 (by decide) (by decide)) (by omega) rfl
  have s4 : SimS (vw 1 (up2 (up2 (up2 M (1 + 8) k v) (1 + 3) c (nI 0)) (1 + 4) c (nI 0))) (up1 (up1 (up1 u (159 + 4 * k + 2) v) (9 + 6 * c + 3) (nI 0)) (9 + 6 * c + 4) (nI 0)) := sim_putv s3 (k := 4) (by decide) (i4 4 (by decide) (by decide)) (by omega) rfl
  exact sim_putv s4 (k := 5) (by decide) (i4 5 (by decide) (by decide)) (by omega) rfl
theorem o_cart {N d : Nat} {xs : Nat → Int32} {K : Nat → Nat × Nat} {I : Mem} {L : Nat → Nat → Int64} {R : Nat → Nat → Option Nat} {n s : Nat} {x z : Int32} (h : Sim N xs K I L R n) (hn : n + 6 ≤ lmCells) (hs : s + 876 ≤ lmSlots) : Ok (d + 40) 131 [.ref 0, .int x, .int z, .ref 337] (K, I, L, R, n, s) (AftC N xs (d + 40) 298 [.ref 318, .int x, .int z] n s false) := by
  obtain ⟨hB, ⟨o, ro, H, hS⟩, hK, hTp, ⟨p, A, Ss, hP, hA, hPs⟩, h8, h13, h25⟩ := id h
  have hT := hB.1
  have h338 := hT.2.2
  have hw := hS.2.1.1
  have hH6 := hS.2.1.2.1
  have hTe := fun ci => tk_ex (ci := ci) hT hB.2.2.2.2.2
  have hwe : upr I n (fun _ => (0 : Int32)) 319 0 = nI H := by rw [upr_ne (by omega)]; exact hw
  obtain ⟨sk, hsk⟩ := sk_ex hS.2.1 hS.2.2.2.2.2.1 hS.2.2.2.2.2.2
  obtain ⟨r, hr⟩ := fix_ex (stR sk) (usR sk)
  have hA12 := hP.2.2.1
  obtain ⟨q, hq6, hq⟩ := log_ok hS.1
  have h2 := sim_rank h hS
  have e2 : ∀ a, a ≠ 47 → a ≠ 48 → a < 338 → rankM I 1 o a = I a := fun a h1 h2 h3 => rank_out hS.2.2.2.1 h1 h2 h3
  have hS2 : StR K R n (rankM I 1 o) 1 o (rankM I 1 o 319) ro H := by
    rw [e2 319 (by decide) (by decide) (by decide)]
    exact st_fr hS (laD_me hS.2.2.1) (Nat.le_refl _) (fun _ _ => rfl) rfl (fun _ _ _ => rfl) (fun a q1 q2 q3 => by unfold rankM; rw [upr_ne (by omega)]; exact rk1M_out (by omega) (by omega) (off_of hS.2.2.1 q3) 25) (fun k hk => e2 _ (by omega) (by omega) (by omega))
  have hPs2 : ∀ i, i < A → PstR (Ss i) (fun k => rankM I 1 o 323 (483 * i + k)) (rankM I 1 o 319 2) := fun i hi => by rw [e2 323 (by decide) (by decide) (by decide), e2 319 (by decide) (by decide) (by decide)]; exact hPs i hi
  have hwy : ∀ c, c < 25 → ∀ a, FixI (wayK sk c) (wayU sk) a → mnN a 5 = 1000 * (r c / 32) + r c % 32 := fun c hc a ha => by
    have we := way_eq hc (fun q hq => (hsk q hq).2) ha hr
    omega
  have hrb : ∀ c, c < 25 → r c ≤ 100000 := fun c hc => by
    obtain ⟨a, ha⟩ := fix_ex (wayK sk c) (wayU sk)
    exact (way_eq hc (fun q hq => (hsk q hq).2) ha hr).2.2
  have hcp : ∀ k c, k < 6 → c < 25 → (carP (I 319) k c (1000 * (r c / 32) + r c % 32) ↔ cart1 (vw 1 I) k c ∧ ¬ nI 4 * I 7 k < rankM I 1 o 47 c / nI 32) := fun k c hk hc => by
    have hrc := hrb c hc
    rw [rank_eq hS hsk hr c hc, nI_div (by omega) (by decide), show I 7 k = I 319 (159 + 4 * k + 0) from sim_h6 (b := 1) (I := I) hS.1 hk]
    unfold cart1
    rw [show vw 1 I 3 c = I 319 (9 + 6 * c + 3) from sim_c3 (b := 1) (I := I) hS.1 hc, show vw 1 I 4 c = I 319 (9 + 6 * c + 4) from sim_c4 (b := 1) (I := I) hS.1 hc, show vw 1 I 9 k = I 319 (159 + 4 * k + 3) from sim_h9 (b := 1) (I := I) hS.1 hk]
    have hd : (1000 * (r c / 32) + r c % 32) / 1000 = r c / 32 := by omega
    obtain ⟨a, a1, a2⟩ := (hS.2.1.2.2.2.2.2.1 c hc).2.2
    have hpz : nI 0 < I 319 (9 + 6 * c + 3) ↔ ¬ I 319 (9 + 6 * c + 3) = nI 0 := pos_iff (m := 99) (by decide) ⟨a, a1, a2⟩
    rw [carP, hd, hpz, and_assoc, and_assoc]
  refine w_cart (d := d + 38) (TK.k1 hT rfl) ?_
  refine c_cart (d := d + 32) hT (by omega) (by omega) hP (st_r14 hS) (nrm1 hS.1) (st_H hS) hH6 hS.2.2.1 hS.2.2.2.1 hq hq6 (fun hx => ?_) (fun k c hk hc hx hz hf => ?_) (fun k c hk hc hx hz hf hwl => ?_) (fun k c hk hc hx hz hf hwl J R2 p2 hT2 hkp hP2 => ?_)
  · exact wrq_e1 (mide hB) (m_cartE1 (d := d + 29) (hTe 16) hwe hH6 hx (aft_e h hn (by decide)))
  · subst hx hz
    refine wrq_e2 (mide hB) (m_cartE2 (d := d + 29) (hTe 18) hwe hH6 hk hc (o := ro) (by rw [upr_ne (by omega)]; exact hS.2.2.2.2.2.1) (sk := sk) (fun q hq => by rw [upr_ne (by omega)]; exact ⟨(hsk q hq).1, by have := (hsk q hq).2; omega⟩) (hwy c hc) (by rw [upr_ne (by omega)]; exact fun z => hf ((hcp k c (by omega) hc).mp z).1) (fun M hM => ?_))
    exact aft_mkE (sim_up (sim_ex h (by omega)) (fun a ha => by
      by_cases y : a = 319
      · subst y; exact hM.2.2.2
      · exact hM.1 a (by omega)) (fun j hj => hM.2.1 j (by omega)) (fun _ _ => rfl)) hM.2.2.1 (by decide) (by omega) (by omega)
  · subst hx hz
    have er : upr (rankM I 1 o) n (fun _ => (0 : Int32)) 319 = I 319 := by rw [upr_ne (by omega)]; exact e2 319 (by decide) (by decide) (by decide)
    refine wrq_e2 (mide h2.1) (m_cartE2 (d := d + 29) (hTe 18) (by rw [er]; exact hw) hH6 hk hc (o := ro) (by rw [er]; exact hS.2.2.2.2.2.1) (sk := sk) (fun q hq => by rw [er]; exact ⟨(hsk q hq).1, by have := (hsk q hq).2; omega⟩) (hwy c hc) (by rw [er]; exact fun z => ((hcp k c (by omega) hc).mp z).2 hwl) (fun M hM => ?_))
    exact aft_mkE (sim_up (sim_ex h2 (by omega)) (fun a ha => by
      by_cases y : a = 319
      · subst y; exact hM.2.2.2
      · exact hM.1 a (by omega)) (fun j hj => hM.2.1 j (by omega)) (fun _ _ => rfl)) hM.2.2.1 (by decide) (by omega) (by omega)
  · subst hx hz
    have e9 : rankM I 1 o 319 = I 319 := e2 319 (by decide) (by decide) (by decide)
    have hs1 : SimS (vw 1 J) (I 319) := by rw [← e9]; exact kp_sim hS2.1 hkp
    have hcM : ∀ a, (a < 1 ∨ 13 ≤ a) → cartM J 1 k c q a = J a := fun a ha => by
      unfold cartM addM wrM
      simp (disch := omega) only [up2_ne]
    have e319 : cartM J 1 k c q 319 = I 319 := by rw [hcM 319 (by omega), hkp.1 319 (by decide) (by decide), e9]
    have hq2 : J (1 + 10) 1 = nI q := by rw [hkp.1 (1 + 10) (by decide) (by decide), e2 (1 + 10) (by decide) (by decide) (by decide)]; exact hq
    have hcs := sim_cart hs1 (show k < 6 by omega) hc hq2 hq6
    obtain ⟨a, a1, a2⟩ := (hS.2.1.2.2.2.2.2.2.1 k (by omega)).1
    obtain ⟨b, b1, b2⟩ := (hS.2.1.2.2.2.2.2.1 c hc).2.2
    refine wrq_v hT2 (mid_of h2.1 ((hcM lmScr (Or.inr (by decide))).trans (hkp.1 lmScr (by decide) (by decide)))) ?_
    refine m_cart (d := d + 29) (A := A) (H := H) hT2 (by rw [e319]; exact hw) hH6 ?_ hA12 hk hc (o := ro) (by rw [e319]; exact hS.2.2.2.2.2.1) (sk := sk) (fun q hq => by rw [e319]; exact ⟨(hsk q hq).1, by have := (hsk q hq).2; omega⟩) (hwy c hc) (by rw [e319]; exact (hcp k c (by omega) hc).mpr ⟨hf, hwl⟩) (fun J3 a3 => ?_)
    · rw [hcM 318 (by omega), hkp.1 318 (by decide) (by decide), e2 318 (by decide) (by decide) (by decide)]; exact hA
    · rw [e319] at a3 ⊢
      refine ⟨_, rfl, a3.2.2.1, fun _ => ?_, sim_act (H2 := H) h2 hS2 hA12 hPs2 hT2 hkp hP2 (fun a q _ => hcM a q) a3 hcs ?_ (fun j hj => ?_) ?_ up_lmB, by show n ≤ n + 6; omega, by show s ≤ s + 876; omega⟩
      · refine lh.trans ?_
        rw [cond_false, show cartM J 1 k c q 9 k = carW (I 319) k c (159 + 4 * k + 2) from sim_h8 hcs (by omega)]
        unfold carW
        rw [tolW_lo (by omega) (by omega), up1_ne (by omega), up1_ne (by omega), up1_ne (by omega), up1_hit]
      · unfold carW
        refine wb_ag (fun j h1 h2 _ => tolW_lo h1 h2) (wb_fr (wb_fr (wb_up (wb_up hS.2.1 (by omega) (by omega) (by omega) (by omega) (fun c hc => ⟨fun e => absurd e (by omega), fun e => absurd e (by omega), fun e => absurd e (by omega)⟩) (fun c hc e => ⟨by omega, ?_⟩) (fun c hc => by omega)) (by omega) (by omega) (by omega) (by omega) (fun c hc => ⟨fun e => absurd e (by omega), fun e => absurd e (by omega), fun e => ⟨0, by decide, rfl⟩⟩) (fun c hc e => absurd e (by omega)) (fun c hc => by omega)) (by omega)) (by omega))
        rw [a2, b2, nI_add]; exact bd_mn (by omega) (by decide)
      · unfold carW
        rw [tolW_hi hj, up1_ne (by omega), up1_ne (by omega), up1_ne (by omega), up1_ne (by omega), e9]
      · unfold carW
        rw [tolW_lo (by omega) (by omega), up1_ne (by omega), up1_ne (by omega), up1_ne (by omega), up1_ne (by omega), e9]
