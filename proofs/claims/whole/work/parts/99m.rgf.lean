/-! A law's text in the reference, whole -/
def lnR (tv : Nat → Nat) (T l : Nat) (st : Sz) (q : Nat) : Re := if l < 12 then linR tv T st q else (false, st, q)
theorem ll_x {T l k v p b : Nat} {tv : Nat → Nat} {st : Sz} {I J N : Mem} {r : Re} (h : TkJ I J p b) (g : LlJ T tv l st k v J r N) : LlJ T tv l st k v I r N := ⟨fr_t (fr_tk h) g.1, g.2⟩

theorem m_lineL {d : Nat} {K : Nat → Nat × Nat} {I : Nat → Nat → Int32} {L : Nat → Nat → Int64} {R : Nat → Nat → Option Nat} {n s : Nat} {Q : Lo → Lm → Prop} {T p i : Nat} {tv : Nat → Nat} {st : Sz} (hT : TK K R n) (hR : RfI I T tv) (hp : p ≤ T) (h10 : I 318 10 = nI p) (hS : SS K I R) (hi9 : i ≤ 12) (hD : DrS (I 319) st) (hz16 : I 318 16 = nI st.2) (hg : st.2 ≤ skp tv T p) (kk : ∀ J k v, ((lnR tv T i st (skp tv T p)).1 = true → ∃ z, hedF tv T (skp tv T p) = .inr (k, v, z)) → LlJ T tv i st k v I (lnR tv T i st (skp tv T p)) J → Q (.inl (some (.int (if (lnR tv T i st (skp tv T p)).1 = true then nI 1 else nI 0)))) (K, J, L, R, n, s)) : Ok (d + 29) 224 [.ref 318, .int (nI 0), .int (nI i)] (K, I, L, R, n, s) Q := by
  obtain ⟨-, -, hn⟩ := id hT
  refine Ok.enter (F := F_224) (ls := [.ref 318, .int (nI 0), .int (nI i)]) rfl rfl ?_
  refine wp_aload0 (pc' := 1) rfl rfl ?_
  refine wp_callV1 (pc' := 4) rfl rfl rfl rfl rfl (by first | exact TK.k1 hT rfl | exact TK.kk hT rfl | exact TK.r hT rfl | assumption) rfl rfl ?_
  refine m_lettersTJ hT hR hp h10 (fun J1 hJ1 => ?_)
  obtain ⟨q, hq⟩ : ∃ q, skp tv T p = q := ⟨_, rfl⟩
  have hqT := (skp_ge (tv := tv) hp).2
  have hlT := letN_le (tv := tv) (T := T) (p := q)
  rw [hq] at hJ1 hqT kk
  refine Cont.u ?_
  refine wp_iload2 (pc' := 5) rfl rfl ?_
  refine wp_iload1 (pc' := 6) rfl rfl ?_
  refine wp_ifeqT rfl rfl ?_
  refine wp_bipush (v := nI 12) (pc' := 16) rfl rfl rfl ?_
  refine wp_icmpge (pc' := 19) rfl rfl ?_ ?_
  · intro h16
    refine wp_iconst (v := nI 0) (pc' := 46) rfl rfl rfl ?_
    refine wp_iret rfl rfl (by first | rfl | exact nar_if) ?_
    first | (rw [hlr] at kk; exact Qv (kk J k v hh (ll_x hJ1 hJ)) (by rw [if_pos h38]) rfl) | (rw [hlr] at kk; exact Qv (kk J k v hh (ll_x hJ1 hJ)) (by rw [if_neg h38]) rfl) | (have hlr : lnR tv T i st q = (false, st, q) := if_neg (fun z => h16 (nI_lt z (by omega))); rw [hlr] at kk; exact kk J1 0 0 (fun z => absurd (show false = true from z) (by decide)) (ll_f (fr_tk hJ1) hJ1.2.2.2))
  · intro h16
    refine wp_iload1 (pc' := 20) rfl rfl ?_
    refine wp_ifeqT rfl rfl ?_
    refine wp_aload0 (pc' := 34) rfl rfl ?_
    refine wp_iload2 (pc' := 35) rfl rfl ?_
    refine wp_callV2 (pc' := 38) rfl rfl rfl rfl rfl (by first | exact TK.k1 hT rfl | exact TK.kk hT rfl | exact TK.r hT rfl | assumption) rfl rfl ?_
    have hi12 := nI_lt_inv (by omega) (by omega) h16
    refine m_readLawLine (q := q) (st := st) hT (tk_rd hJ1 hR) (tk_ss hJ1 hS) hqT hJ1.2.2.1 hJ1.2.2.2 hi12 (by rw [hJ1.1 319 (by decide)]; exact hD) (by rw [hJ1.2.1 16 (by decide) (by decide)]; exact hz16) hg (fun J k v hh hJ => ?_)
    have hlr : lnR tv T i st q = linR tv T st q := if_pos hi12
    refine Cont.v ?_
    first | refine wp_ifeqB (pc' := 41) rfl rfl ?_ ?_ | refine wp_ifeq (pc' := 41) rfl rfl ?_ ?_
    · intro h38
      refine wp_iconst (v := nI 0) (pc' := 46) rfl rfl rfl ?_
      refine wp_iret rfl rfl (by first | rfl | exact nar_if) ?_
      first | (rw [hlr] at kk; exact Qv (kk J k v hh (ll_x hJ1 hJ)) (by rw [if_pos h38]) rfl) | (rw [hlr] at kk; exact Qv (kk J k v hh (ll_x hJ1 hJ)) (by rw [if_neg h38]) rfl) | (have hlr : lnR tv T i st q = (false, st, q) := if_neg (fun z => h16 (nI_lt z (by omega))); rw [hlr] at kk; exact kk J1 0 0 (fun z => absurd (show false = true from z) (by decide)) (ll_f (fr_tk hJ1) hJ1.2.2.2))
    · intro h38
      refine wp_iconst (v := nI 1) (pc' := 42) rfl rfl rfl ?_
      refine wp_goto rfl ?_
      refine wp_iret rfl rfl (by first | rfl | exact nar_if) ?_
      first | (rw [hlr] at kk; exact Qv (kk J k v hh (ll_x hJ1 hJ)) (by rw [if_pos h38]) rfl) | (rw [hlr] at kk; exact Qv (kk J k v hh (ll_x hJ1 hJ)) (by rw [if_neg h38]) rfl) | (have hlr : lnR tv T i st q = (false, st, q) := if_neg (fun z => h16 (nI_lt z (by omega))); rw [hlr] at kk; exact kk J1 0 0 (fun z => absurd (show false = true from z) (by decide)) (ll_f (fr_tk hJ1) hJ1.2.2.2))
