theorem o_pairs {N d : Nat} {xs : Nat → Int32} {K : Nat → Nat × Nat} {I : Mem} {L : Nat → Nat → Int64} {R : Nat → Nat → Option Nat} {n s : Nat} {x : Int32} (h : Sim N xs K I L R n) (hn : n + 6 ≤ lmCells) (hs : s + 876 ≤ lmSlots) : Ok (d + 40) 186 [.ref 0, .int x, .ref 337] (K, I, L, R, n, s) (AftC N xs (d + 40) 344 [.ref 318, .int x] n s false) := by
  obtain ⟨hB, ⟨o, ro, H, hS⟩, hK, hTp, ⟨p, A, Ss, hP, hA, hPs⟩, h8, h13, h25⟩ := id h
  have hT := hB.1
  have h338 := hT.2.2
  have hw := hS.2.1.1
  have hH6 := hS.2.1.2.1
  have hTe := fun ci => tk_ex (ci := ci) hT hB.2.2.2.2.2
  have hwe : upr I n (fun _ => (0 : Int32)) 319 0 = nI H := by rw [upr_ne (by omega)]; exact hw
  obtain ⟨sh, hsh⟩ := sh_ex (I 319)
  have hpt := pr_top (S := vw 1 I) (g := L 173) hsh (fun c hc => sim_h9 (b := 1) (I := I) hS.1 hc) hH6
  have hSU : Sim N xs K I (upr L 173 (prB (vw 1 I) H (L 173) (2 ^ H - 1))) R n := sim_up h (fun _ _ => rfl) (fun _ _ => rfl) (fun a ha => upr_ne (by have : lmB = 1000000000 := rfl; omega))
  refine w_pairs (d := d + 38) (TK.k1 hT rfl) ?_
  by_cases hx1 : x = -1
  · subst hx1
    refine c_pairsN (d := d + 35) hT hB.2.1 ((sim_r0 hS.1).1.trans hw) hH6 ?_
    refine wrq_v hT (mid0 hB) (m_pairsN (d := d + 35) hT hw hH6 hsh (fun J hJ => ?_))
    rw [hpt.1]
    exact aft_J hSU hJ
  · refine c_pairsH (d := d + 35) hT hB.2.1 (by omega) (by omega) ((sim_r0 hS.1).1.trans hw) hH6 hx1 (fun hx => ?_) (fun k hk hx => ?_)
    · refine wrq_e1 (mide hB) ?_
      exact m_pairsE (d := d + 35) (hTe 16) hwe hH6 hx1 hx (aft_e h hn (by decide))
    · subst hx
      refine wrq_v hT (mid0 hB) (m_pairsH (d := d + 35) hT hw hH6 hsh hk (fun J hJ => ?_))
      rw [hpt.2 k hk]
      exact aft_J hSU hJ
theorem pa_t : PaT := fun h hn hs => o_pairs h hn hs
