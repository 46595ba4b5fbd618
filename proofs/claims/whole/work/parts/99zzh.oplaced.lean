theorem o_placed {N d : Nat} {xs : Nat → Int32} {K : Nat → Nat × Nat} {I : Mem} {L : Nat → Nat → Int64} {R : Nat → Nat → Option Nat} {n s : Nat} {x : Int32} (h : Sim N xs K I L R n) (hn : n + 6 ≤ lmCells) (hs : s + 876 ≤ lmSlots) : Ok (d + 40) 176 [.ref 0, .int x, .ref 337] (K, I, L, R, n, s) (AftC N xs (d + 40) 330 [.ref 318, .int x] n s false) := by
  obtain ⟨hB, ⟨o, ro, H, hS⟩, hK, hTp, ⟨p, A, Ss, hP, hA, hPs⟩, h8, h13, h25⟩ := id h
  have hT := hB.1
  have h338 := hT.2.2
  have hw := hS.2.1.1
  have hH6 := hS.2.1.2.1
  have hTe := fun ci => tk_ex (ci := ci) hT hB.2.2.2.2.2
  have hwe : upr I n (fun _ => (0 : Int32)) 319 0 = nI H := by rw [upr_ne (by omega)]; exact hw
  obtain ⟨dp, hdp⟩ := dp_ex hS.2.1
  have hpt := pl_top (S := vw 1 I) (w := I 319) (g := L 173) hdp (fun c hc => sim_c1 (b := 1) (I := I) hS.1 hc) (fun c hc => sim_h9 (b := 1) (I := I) hS.1 hc) hH6
  rw [open_eq hS.1] at hpt
  have hSU : Sim N xs K I (upr L 173 (plB (vw 1 I) H (L 173) 25)) R n := sim_up h (fun _ _ => rfl) (fun _ _ => rfl) (fun a ha => upr_ne (by have : lmB = 1000000000 := rfl; omega))
  refine w_placed (d := d + 38) (TK.k1 hT rfl) ?_
  by_cases hx1 : x = -1
  · subst hx1
    refine c_placedN (d := d + 35) hT hB.2.1 ((sim_r0 hS.1).1.trans hw) hH6 ?_
    refine wrq_v hT (mid0 hB) (m_placedN (d := d + 35) hT hw hH6 hdp (fun J hJ => ?_))
    rw [hpt.1]
    exact aft_J hSU hJ
  · refine c_placedH (d := d + 35) hT hB.2.1 (by omega) (by omega) ((sim_r0 hS.1).1.trans hw) hH6 hx1 (fun hx => ?_) (fun k hk hx => ?_)
    · refine wrq_e1 (mide hB) ?_
      exact m_placedE (d := d + 35) (hTe 16) hwe hH6 hx1 hx (aft_e h hn (by decide))
    · subst hx
      refine wrq_v hT (mid0 hB) (m_placedH (d := d + 35) hT hw hH6 hdp hk (fun J hJ => ?_))
      rw [hpt.2 k hk]
      exact aft_J hSU hJ
theorem pl_t : PlT := fun h hn hs => o_placed h hn hs
theorem law_holds : LawTrue := law_true pl_t pa_t
