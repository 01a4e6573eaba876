/-! the weddings agree -/
theorem aW3_s {i j : Nat} (h : aW3 i j = true) : scr i j = true := by simp [aW3] at h; simp [scr]; omega
theorem fr_79 {w u : q_Sm} (h : fr aW3 w u) (h0 : w.1 79 0 = 0) : u.1 79 0 = 0 := by rw [h.2 79 0 rfl]; exact h0
theorem ag_matched (w : q_Sm) (hI : Inv w) : ag_D Inv 999 mX11_matched mX12_matched w [] := by
  obtain ⟨T, β, C, n, S, B, m, hC, hPst, hImg, hTp, hCnt⟩ := id hI
  refine agD_ok (nI (mm T)) hI (fun Q X hQ => ?_) (fun u hu Q X hQ => ?_)
  · apply eX11_matched
    unfold vX11_matched_0
    rw [hC.2.2.2.2.2.2.1.1, s_Ii]
    exact hQ w (fr.refl _ _)
  · have hE1 := (hC.sim hu).2.2.1
    apply eX12_matched
    unfold vX12_matched_0
    rintro _ rfl
    have f1 : fr scr u (q_wI u 79 0 0) := fr.wr rfl
    have hE2 : RE T C n (q_wI u 79 0 0) := hE1.eq (fun i j q => by
      by_cases z : i = 79
      · exact rd_j (by omega)
      · exact rd_i z)
    refine R_findWeddings (d := 927) hE2 (fun u2 f2 _ => ?_)
    rw [s_Ii]
    exact hQ u2 (f1.trans (f2.mono (fun i j q => aW3_s q)))
theorem ag_weds (w : q_Sm) (hI : Inv w) (x1 : Int32) : ag_W Inv 998 1 er_N mX11_weds mX12_weds w [.int x1] := by
  obtain ⟨T, β, C, n, S, B, m, hC, hPst, hImg, hTp, hCnt⟩ := id hI
  have hE := hC.2.1
  have ht := hE.2.2.1
  have hRE := hC.2.2.1
  have hnc := tb_nc ht
  have hnd := tb_nd ht
  have hnw := tb_nw ht
  have hS := hC.2.2.2.1
  have hSr := hC.2.2.2.2.1
  have hok := hC.2.2.2.2.2.1
  have hβ := hE.ord
  rcases rngc x1 (T 7 3) (by omega) with ⟨j1, g1, rfl⟩ | e0
  rotate_left
  · have e0 : r_in x1 0 (nI (T 7 3) - 1) = 0 := e0
    refine agW_no hI "java/util/NoSuchElementException" (nI 1) 13 0 (by omega) (⟨rfl, rfl⟩) (fun Q X hX => ?_) (fun u hu Q X hQ => ?_)
    · apply eX11_weds
      unfold vX11_weds_0
      exact K_wed hE (fun _ => hX) (fun z => absurd (z.symm.trans e0) (by decide))
    · have hE1 : RE T C n (q_wI u 79 0 0) := (hRE.n1 hu).t
      have h79 : (q_wI u 79 0 0).1 79 0 = 0 := rd_s
      apply eX12_weds
      unfold vX12_weds_0
      rintro _ rfl
      refine R_wed0 (k := 1) hE1 (by omega) (by omega) e0 ?_
      first | exact ⟨fun _ => ⟨_, rfl, hQ⟩, fun z => absurd rfl z⟩ | exact ⟨fun z => absurd rfl z, fun _ => ⟨_, rfl, hQ⟩⟩
  have p0 : r_in (nI j1) 0 (nI (T 7 3) - 1) = 1 := r_inc g1 (by omega)
  refine agW_ok (oI (wd T j1)) hI (fun Q X hQ => ?_) (fun u hu Q X hQ => ?_)
  · apply eX11_weds
    unfold vX11_weds_0
    refine K_wed hE (fun z => absurd (z.symm.trans p0) (by decide)) (fun _ => ?_)
    have hmt := hC.2.2.2.2.2.2.1.2 j1 g1
    rw [nI_clamp (by omega), hmt, s_Ii]
    exact ⟨(vp_nI (by omega)).mpr (by omega), hQ w (fr.refl _ _)⟩
  · have hCu := hC.sim hu
    have hE1 : RE T C n (q_wI u 79 0 0) := hCu.2.2.1.t
    have h79 : (q_wI u 79 0 0).1 79 0 = 0 := rd_s
    have hS1 : rR 104 S (q_wI u 79 0 0) := hCu.2.2.2.2.1.eq (fun j => rd_i (by omega))
    have hf1 : fr scr u (q_wI u 79 0 0) := scr_t
    apply eX12_weds
    unfold vX12_weds_0
    intro w1 hw1
    rw [← hw1] at hE1 h79 hS1 hf1
    refine R_wed1 hE1 h79 p0 ?_
    first | refine ⟨fun z => absurd z (by decide), fun _ => ?_⟩ | refine ⟨fun _ => ?_, fun z => absurd (show ¬ (1 : Int32) = 0 by decide) z⟩
    refine R_findWeddings (d := 927) hE1 (fun u2 f2 m2 => ?_)
    rw [nI_clamp (by omega), m2 j1 g1, s_Ii]
    exact ⟨(vp_nI (by omega)).mpr (by omega), hQ u2 (hf1.trans (f2.mono (fun i j q => aW3_s q))) (fr_79 f2 h79)⟩
