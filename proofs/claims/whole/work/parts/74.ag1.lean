/-! agreements: what is told, owed, left; what would come -/
theorem sc_F (i j : Nat) (h : aF i j = true) : scr i j = true := by
  have : i = 67 ∨ i = 69 ∨ i = 38 ∨ i = 39 ∨ i = 42 ∨ i = 43 := by simpa [aF, aR, aL, or_assoc] using h
  rcases this with rfl | rfl | rfl | rfl | rfl | rfl <;> rfl
theorem sc_L (i j : Nat) (h : aL i j = true) : scr i j = true := sc_F i j (aR_aF i j (aL_aR 68 i j h))
theorem sc_S (i j : Nat) (h : aS i j = true) : scr i j = true := by
  have : i = 100 ∨ i = 101 ∨ i = 105 := by simpa [aS, or_assoc] using h
  rcases this with rfl | rfl | rfl <;> rfl
theorem sc_D (i j : Nat) (h : aD i j = true) : scr i j = true := by
  have : aS i j = true ∨ (i = 79 ∧ (j = 63 ∨ j = 64)) := by simpa [aD] using h
  rcases this with h | ⟨rfl, rfl | rfl⟩
  · exact sc_S i j h
  · rfl
  · rfl
theorem ag_told (w : q_Sm) (hI : Inv w) (x1 : Int32) : ag_W Inv 998 1 er_I mX11_told mX12_told w [.int x1] := by
  obtain ⟨T, β, C, n, S, B, m, hC, hPst, hImg, hTp, hCnt⟩ := id hI
  have hE := hC.2.1
  have ht := hE.2.2.1
  have hRE := hC.2.2.1
  have hnc := tb_nc ht
  have hnd := tb_nd ht
  have hnw := tb_nw ht
  have hS := hC.2.2.2.1
  have hSr := hC.2.2.2.2.1
  have hok := hC.2.2.2.2.2.1
  have hβ := hE.ord
  rcases rng x1 8 (by omega) with ⟨j1, g1, rfl⟩ | e0
  rotate_left
  · have e0 : r_in x1 0 8 = 0 := e0
    refine agW_no hI "java/lang/IllegalArgumentException" (nI 1) 14 1 (by omega) (⟨rfl, rfl⟩) (fun Q X hX => ?_) (fun u hu Q X hQ => ?_)
    · apply eX11_told
      unfold vX11_told_0
      refine K_isIn ?_
      rw [e0]
      exact K_req0 hX
    · have hE1 : RE T C n (q_wI u 79 0 0) := (hRE.n1 hu).t
      have h79 : (q_wI u 79 0 0).1 79 0 = 0 := rd_s
      apply eX12_told
      unfold vX12_told_0
      rintro _ rfl
      refine R_within ?_
      rw [e0]
      refine R_no (k := 1) (t := 1) (by omega) (by omega) (by omega) ?_
      first | exact ⟨fun _ => ⟨_, rfl, hQ⟩, fun z => absurd rfl z⟩ | exact ⟨fun z => absurd rfl z, fun _ => ⟨_, rfl, hQ⟩⟩
  have p0 : r_in (nI j1) 0 8 = 1 := r_in1 (a := 0) (b := 8) (by omega) (by omega) (by omega)
  obtain rfl | rfl | rfl | rfl | rfl | rfl | rfl | rfl | rfl : j1 = 0 ∨ j1 = 1 ∨ j1 = 2 ∨ j1 = 3 ∨ j1 = 4 ∨ j1 = 5 ∨ j1 = 6 ∨ j1 = 7 ∨ j1 = 8 := by omega
  · skip
    refine agW_ok (nI (T 7 0)) hI (fun Q X hQ => ?_) (fun u hu Q X hQ => ?_)
    · apply eX11_told
      unfold vX11_told_0
      refine K_isIn ?_
      rw [p0]
      refine K_req1 ?_
      simp (decide := true) only [show Int32.toInt (nI 0) = 0 from rfl, forall_const, true_implies, false_implies, and_true, true_and, or_self, or_false, false_or, implies_true, s_Ii]
      have e : w.1 w.2.2.1 0 = nI (T 7 0) := hE.2.2.2.1.1.1
      rw [e]
      exact ⟨ia_0 hE.1, hQ w (fr.refl _ _)⟩
    · have hCu := hC.sim hu
      have hE1 : RE T C n (q_wI u 79 0 0) := hCu.2.2.1.t
      have h79 : (q_wI u 79 0 0).1 79 0 = 0 := rd_s
      have hS1 : rR 104 S (q_wI u 79 0 0) := hCu.2.2.2.2.1.eq (fun j => rd_i (by omega))
      have hf1 : fr scr u (q_wI u 79 0 0) := scr_t
      apply eX12_told
      unfold vX12_told_0
      intro w1 hw1
      rw [← hw1] at hE1 h79 hS1 hf1
      refine R_within ?_
      rw [p0]
      refine R_may1 h79 ?_
      first | refine ⟨fun z => absurd z (by decide), fun _ => ?_⟩ | refine ⟨fun _ => ?_, fun z => absurd (show ¬ (1 : Int32) = 0 by decide) z⟩
      refine r_take hS1 (fun u2 hu2 hr2 => ?_)
      have e : u2.1 79 29 = nI (T 7 0) := (hu2.2 _ _ rfl).trans hE1.2.1.1.1
      try simp (disch := omega) only [s_Ii, s_Jj, s_Vn, forall_eq, L_m1, nI_add, nI_clamp, nI_leI, nI_ltI, nI_eq, vp_nI, pk_mul, pk_sub, Nat.zero_add, Nat.add_zero, wr_2, Classical.not_not, true_and, and_true, ne_eq, false_implies, true_implies, implies_true, not_true_eq_false, not_false_eq_true, ia_0, ia_1, za_1, ia_2, za_2, ia_3, za_3, ia_4, za_4, ia_5, za_5, ia_6, za_6, ia_7, za_7, ia_8, za_8, ia_9, za_9, ia_10, za_10, ia_11, za_11, ia_12, za_12, ia_13, za_13, ia_14, za_14, ia_15, za_15, ib_0, ib_1, zb_1, ic_0, ic_1, ic_2, ic_3, zc_1, zc_2, zc_3, id_0, id_1, id_2, id_3, zd_1, zd_2, zd_3, L_0, L_1, L_2, L_3, L_4, L_5, L_6, L_7, L_8, L_9, L_10, L_11, L_12, L_13, L_14, L_15, L_16, L_17, L_18, L_19, L_20, L_24, L_27, L_30, L_31, L_32, L_35, L_36, L_40, L_41, L_43, L_44, L_45, L_46, L_47, L_48, L_50, L_54, L_57, L_58, L_59, L_60, L_61, L_62, L_63, L_91, L_93, L_96, L_97, L_98, L_99, L_100, L_103, L_122, L_145, L_150, L_200, L_255, L_600, L_999, L_1000, L_2000, L_9999, L_10000, L_32767, L_12345, oI_s, oI_n, L_mn, if_true, if_false, ite_true, ite_false, Bool.false_eq_true, Nat.reduceEqDiff, Nat.reduceLeDiff, Nat.reduceLT, Nat.reduceAdd, Nat.reduceSub, Nat.reduceMul, Nat.le_refl, Nat.lt_irrefl, Nat.not_lt_zero, e]
      exact hQ u2 (hf1.trans (hu2.mono sc_S)) ((hu2.2 _ _ rfl).trans h79)
  · skip
    refine agW_ok (nI (T 7 1)) hI (fun Q X hQ => ?_) (fun u hu Q X hQ => ?_)
    · apply eX11_told
      unfold vX11_told_0
      refine K_isIn ?_
      rw [p0]
      refine K_req1 ?_
      simp (decide := true) only [show Int32.toInt (nI 1) = 1 from rfl, forall_const, true_implies, false_implies, and_true, true_and, or_self, or_false, false_or, implies_true, s_Ii]
      have e : w.1 w.2.2.1 3 = nI (T 7 1) := hE.2.2.2.1.1.2.1
      rw [e]
      exact ⟨ia_0 hE.1, hQ w (fr.refl _ _)⟩
    · have hCu := hC.sim hu
      have hE1 : RE T C n (q_wI u 79 0 0) := hCu.2.2.1.t
      have h79 : (q_wI u 79 0 0).1 79 0 = 0 := rd_s
      have hS1 : rR 104 S (q_wI u 79 0 0) := hCu.2.2.2.2.1.eq (fun j => rd_i (by omega))
      have hf1 : fr scr u (q_wI u 79 0 0) := scr_t
      apply eX12_told
      unfold vX12_told_0
      intro w1 hw1
      rw [← hw1] at hE1 h79 hS1 hf1
      refine R_within ?_
      rw [p0]
      refine R_may1 h79 ?_
      first | refine ⟨fun z => absurd z (by decide), fun _ => ?_⟩ | refine ⟨fun _ => ?_, fun z => absurd (show ¬ (1 : Int32) = 0 by decide) z⟩
      refine r_take hS1 (fun u2 hu2 hr2 => ?_)
      have e : u2.1 79 30 = nI (T 7 1) := (hu2.2 _ _ rfl).trans hE1.2.1.1.2.1
      try simp (disch := omega) only [s_Ii, s_Jj, s_Vn, forall_eq, L_m1, nI_add, nI_clamp, nI_leI, nI_ltI, nI_eq, vp_nI, pk_mul, pk_sub, Nat.zero_add, Nat.add_zero, wr_2, Classical.not_not, true_and, and_true, ne_eq, false_implies, true_implies, implies_true, not_true_eq_false, not_false_eq_true, ia_0, ia_1, za_1, ia_2, za_2, ia_3, za_3, ia_4, za_4, ia_5, za_5, ia_6, za_6, ia_7, za_7, ia_8, za_8, ia_9, za_9, ia_10, za_10, ia_11, za_11, ia_12, za_12, ia_13, za_13, ia_14, za_14, ia_15, za_15, ib_0, ib_1, zb_1, ic_0, ic_1, ic_2, ic_3, zc_1, zc_2, zc_3, id_0, id_1, id_2, id_3, zd_1, zd_2, zd_3, L_0, L_1, L_2, L_3, L_4, L_5, L_6, L_7, L_8, L_9, L_10, L_11, L_12, L_13, L_14, L_15, L_16, L_17, L_18, L_19, L_20, L_24, L_27, L_30, L_31, L_32, L_35, L_36, L_40, L_41, L_43, L_44, L_45, L_46, L_47, L_48, L_50, L_54, L_57, L_58, L_59, L_60, L_61, L_62, L_63, L_91, L_93, L_96, L_97, L_98, L_99, L_100, L_103, L_122, L_145, L_150, L_200, L_255, L_600, L_999, L_1000, L_2000, L_9999, L_10000, L_32767, L_12345, oI_s, oI_n, L_mn, if_true, if_false, ite_true, ite_false, Bool.false_eq_true, Nat.reduceEqDiff, Nat.reduceLeDiff, Nat.reduceLT, Nat.reduceAdd, Nat.reduceSub, Nat.reduceMul, Nat.le_refl, Nat.lt_irrefl, Nat.not_lt_zero, e]
      exact hQ u2 (hf1.trans (hu2.mono sc_S)) ((hu2.2 _ _ rfl).trans h79)
  · skip
    refine agW_ok (nI (T 7 2)) hI (fun Q X hQ => ?_) (fun u hu Q X hQ => ?_)
    · apply eX11_told
      unfold vX11_told_0
      refine K_isIn ?_
      rw [p0]
      refine K_req1 ?_
      simp (decide := true) only [show Int32.toInt (nI 2) = 2 from rfl, forall_const, true_implies, false_implies, and_true, true_and, or_self, or_false, false_or, implies_true, s_Ii]
      have e : w.1 w.2.2.1 10 = nI (T 7 2) := hE.2.2.2.1.1.2.2.1
      rw [e]
      exact ⟨ia_0 hE.1, hQ w (fr.refl _ _)⟩
    · have hCu := hC.sim hu
      have hE1 : RE T C n (q_wI u 79 0 0) := hCu.2.2.1.t
      have h79 : (q_wI u 79 0 0).1 79 0 = 0 := rd_s
      have hS1 : rR 104 S (q_wI u 79 0 0) := hCu.2.2.2.2.1.eq (fun j => rd_i (by omega))
      have hf1 : fr scr u (q_wI u 79 0 0) := scr_t
      apply eX12_told
      unfold vX12_told_0
      intro w1 hw1
      rw [← hw1] at hE1 h79 hS1 hf1
      refine R_within ?_
      rw [p0]
      refine R_may1 h79 ?_
      first | refine ⟨fun z => absurd z (by decide), fun _ => ?_⟩ | refine ⟨fun _ => ?_, fun z => absurd (show ¬ (1 : Int32) = 0 by decide) z⟩
      refine r_take hS1 (fun u2 hu2 hr2 => ?_)
      have e : u2.1 79 31 = nI (T 7 2) := (hu2.2 _ _ rfl).trans hE1.2.1.1.2.2.1
      try simp (disch := omega) only [s_Ii, s_Jj, s_Vn, forall_eq, L_m1, nI_add, nI_clamp, nI_leI, nI_ltI, nI_eq, vp_nI, pk_mul, pk_sub, Nat.zero_add, Nat.add_zero, wr_2, Classical.not_not, true_and, and_true, ne_eq, false_implies, true_implies, implies_true, not_true_eq_false, not_false_eq_true, ia_0, ia_1, za_1, ia_2, za_2, ia_3, za_3, ia_4, za_4, ia_5, za_5, ia_6, za_6, ia_7, za_7, ia_8, za_8, ia_9, za_9, ia_10, za_10, ia_11, za_11, ia_12, za_12, ia_13, za_13, ia_14, za_14, ia_15, za_15, ib_0, ib_1, zb_1, ic_0, ic_1, ic_2, ic_3, zc_1, zc_2, zc_3, id_0, id_1, id_2, id_3, zd_1, zd_2, zd_3, L_0, L_1, L_2, L_3, L_4, L_5, L_6, L_7, L_8, L_9, L_10, L_11, L_12, L_13, L_14, L_15, L_16, L_17, L_18, L_19, L_20, L_24, L_27, L_30, L_31, L_32, L_35, L_36, L_40, L_41, L_43, L_44, L_45, L_46, L_47, L_48, L_50, L_54, L_57, L_58, L_59, L_60, L_61, L_62, L_63, L_91, L_93, L_96, L_97, L_98, L_99, L_100, L_103, L_122, L_145, L_150, L_200, L_255, L_600, L_999, L_1000, L_2000, L_9999, L_10000, L_32767, L_12345, oI_s, oI_n, L_mn, if_true, if_false, ite_true, ite_false, Bool.false_eq_true, Nat.reduceEqDiff, Nat.reduceLeDiff, Nat.reduceLT, Nat.reduceAdd, Nat.reduceSub, Nat.reduceMul, Nat.le_refl, Nat.lt_irrefl, Nat.not_lt_zero, e]
      exact hQ u2 (hf1.trans (hu2.mono sc_S)) ((hu2.2 _ _ rfl).trans h79)
  · skip
    refine agW_ok (nI (T 7 3)) hI (fun Q X hQ => ?_) (fun u hu Q X hQ => ?_)
    · apply eX11_told
      unfold vX11_told_0
      refine K_isIn ?_
      rw [p0]
      refine K_req1 ?_
      simp (decide := true) only [show Int32.toInt (nI 3) = 3 from rfl, forall_const, true_implies, false_implies, and_true, true_and, or_self, or_false, false_or, implies_true, s_Ii]
      have e : w.1 w.2.2.1 14 = nI (T 7 3) := hE.2.2.2.1.1.2.2.2.1
      rw [e]
      exact ⟨ia_0 hE.1, hQ w (fr.refl _ _)⟩
    · have hCu := hC.sim hu
      have hE1 : RE T C n (q_wI u 79 0 0) := hCu.2.2.1.t
      have h79 : (q_wI u 79 0 0).1 79 0 = 0 := rd_s
      have hS1 : rR 104 S (q_wI u 79 0 0) := hCu.2.2.2.2.1.eq (fun j => rd_i (by omega))
      have hf1 : fr scr u (q_wI u 79 0 0) := scr_t
      apply eX12_told
      unfold vX12_told_0
      intro w1 hw1
      rw [← hw1] at hE1 h79 hS1 hf1
      refine R_within ?_
      rw [p0]
      refine R_may1 h79 ?_
      first | refine ⟨fun z => absurd z (by decide), fun _ => ?_⟩ | refine ⟨fun _ => ?_, fun z => absurd (show ¬ (1 : Int32) = 0 by decide) z⟩
      refine r_take hS1 (fun u2 hu2 hr2 => ?_)
      have e : u2.1 79 32 = nI (T 7 3) := (hu2.2 _ _ rfl).trans hE1.2.1.1.2.2.2.1
      try simp (disch := omega) only [s_Ii, s_Jj, s_Vn, forall_eq, L_m1, nI_add, nI_clamp, nI_leI, nI_ltI, nI_eq, vp_nI, pk_mul, pk_sub, Nat.zero_add, Nat.add_zero, wr_2, Classical.not_not, true_and, and_true, ne_eq, false_implies, true_implies, implies_true, not_true_eq_false, not_false_eq_true, ia_0, ia_1, za_1, ia_2, za_2, ia_3, za_3, ia_4, za_4, ia_5, za_5, ia_6, za_6, ia_7, za_7, ia_8, za_8, ia_9, za_9, ia_10, za_10, ia_11, za_11, ia_12, za_12, ia_13, za_13, ia_14, za_14, ia_15, za_15, ib_0, ib_1, zb_1, ic_0, ic_1, ic_2, ic_3, zc_1, zc_2, zc_3, id_0, id_1, id_2, id_3, zd_1, zd_2, zd_3, L_0, L_1, L_2, L_3, L_4, L_5, L_6, L_7, L_8, L_9, L_10, L_11, L_12, L_13, L_14, L_15, L_16, L_17, L_18, L_19, L_20, L_24, L_27, L_30, L_31, L_32, L_35, L_36, L_40, L_41, L_43, L_44, L_45, L_46, L_47, L_48, L_50, L_54, L_57, L_58, L_59, L_60, L_61, L_62, L_63, L_91, L_93, L_96, L_97, L_98, L_99, L_100, L_103, L_122, L_145, L_150, L_200, L_255, L_600, L_999, L_1000, L_2000, L_9999, L_10000, L_32767, L_12345, oI_s, oI_n, L_mn, if_true, if_false, ite_true, ite_false, Bool.false_eq_true, Nat.reduceEqDiff, Nat.reduceLeDiff, Nat.reduceLT, Nat.reduceAdd, Nat.reduceSub, Nat.reduceMul, Nat.le_refl, Nat.lt_irrefl, Nat.not_lt_zero, e]
      exact hQ u2 (hf1.trans (hu2.mono sc_S)) ((hu2.2 _ _ rfl).trans h79)
  · skip
    refine agW_ok (nI (S 62)) hI (fun Q X hQ => ?_) (fun u hu Q X hQ => ?_)
    · apply eX11_told
      unfold vX11_told_0
      refine K_isIn ?_
      rw [p0]
      refine K_req1 ?_
      simp (decide := true) only [show Int32.toInt (nI 4) = 4 from rfl, forall_const, true_implies, false_implies, and_true, true_and, or_self, or_false, false_or, implies_true, s_Ii]
      exact K_today (Or.inl rfl) hS (hQ w (fr.refl _ _))
    · have hCu := hC.sim hu
      have hE1 : RE T C n (q_wI u 79 0 0) := hCu.2.2.1.t
      have h79 : (q_wI u 79 0 0).1 79 0 = 0 := rd_s
      have hS1 : rR 104 S (q_wI u 79 0 0) := hCu.2.2.2.2.1.eq (fun j => rd_i (by omega))
      have hf1 : fr scr u (q_wI u 79 0 0) := scr_t
      apply eX12_told
      unfold vX12_told_0
      intro w1 hw1
      rw [← hw1] at hE1 h79 hS1 hf1
      refine R_within ?_
      rw [p0]
      refine R_may1 h79 ?_
      first | refine ⟨fun z => absurd z (by decide), fun _ => ?_⟩ | refine ⟨fun _ => ?_, fun z => absurd (show ¬ (1 : Int32) = 0 by decide) z⟩
      refine r_take hS1 (fun u2 hu2 hr2 => ?_)
      try simp (disch := omega) only [s_Ii, s_Jj, s_Vn, forall_eq, L_m1, nI_add, nI_clamp, nI_leI, nI_ltI, nI_eq, vp_nI, pk_mul, pk_sub, Nat.zero_add, Nat.add_zero, wr_2, Classical.not_not, true_and, and_true, ne_eq, false_implies, true_implies, implies_true, not_true_eq_false, not_false_eq_true, ia_0, ia_1, za_1, ia_2, za_2, ia_3, za_3, ia_4, za_4, ia_5, za_5, ia_6, za_6, ia_7, za_7, ia_8, za_8, ia_9, za_9, ia_10, za_10, ia_11, za_11, ia_12, za_12, ia_13, za_13, ia_14, za_14, ia_15, za_15, ib_0, ib_1, zb_1, ic_0, ic_1, ic_2, ic_3, zc_1, zc_2, zc_3, id_0, id_1, id_2, id_3, zd_1, zd_2, zd_3, L_0, L_1, L_2, L_3, L_4, L_5, L_6, L_7, L_8, L_9, L_10, L_11, L_12, L_13, L_14, L_15, L_16, L_17, L_18, L_19, L_20, L_24, L_27, L_30, L_31, L_32, L_35, L_36, L_40, L_41, L_43, L_44, L_45, L_46, L_47, L_48, L_50, L_54, L_57, L_58, L_59, L_60, L_61, L_62, L_63, L_91, L_93, L_96, L_97, L_98, L_99, L_100, L_103, L_122, L_145, L_150, L_200, L_255, L_600, L_999, L_1000, L_2000, L_9999, L_10000, L_32767, L_12345, oI_s, oI_n, L_mn, if_true, if_false, ite_true, ite_false, Bool.false_eq_true, Nat.reduceEqDiff, Nat.reduceLeDiff, Nat.reduceLT, Nat.reduceAdd, Nat.reduceSub, Nat.reduceMul, Nat.le_refl, Nat.lt_irrefl, Nat.not_lt_zero, hr2 62]
      exact hQ u2 (hf1.trans (hu2.mono sc_S)) ((hu2.2 _ _ rfl).trans h79)
  · skip
    refine agW_ok (nI (sm S (T 7 1))) hI (fun Q X hQ => ?_) (fun u hu Q X hQ => ?_)
    · apply eX11_told
      unfold vX11_told_0
      refine K_isIn ?_
      rw [p0]
      refine K_req1 ?_
      simp (decide := true) only [show Int32.toInt (nI 5) = 5 from rfl, forall_const, true_implies, false_implies, and_true, true_and, or_self, or_false, false_or, implies_true, s_Ii]
      exact K_owedInAll hE (Or.inl rfl) hS (hQ w (fr.refl _ _))
    · have hCu := hC.sim hu
      have hE1 : RE T C n (q_wI u 79 0 0) := hCu.2.2.1.t
      have h79 : (q_wI u 79 0 0).1 79 0 = 0 := rd_s
      have hS1 : rR 104 S (q_wI u 79 0 0) := hCu.2.2.2.2.1.eq (fun j => rd_i (by omega))
      have hf1 : fr scr u (q_wI u 79 0 0) := scr_t
      apply eX12_told
      unfold vX12_told_0
      intro w1 hw1
      rw [← hw1] at hE1 h79 hS1 hf1
      refine R_within ?_
      rw [p0]
      refine R_may1 h79 ?_
      first | refine ⟨fun z => absurd z (by decide), fun _ => ?_⟩ | refine ⟨fun _ => ?_, fun z => absurd (show ¬ (1 : Int32) = 0 by decide) z⟩
      refine r_take hS1 (fun u2 hu2 hr2 => ?_)
      try simp (disch := omega) only [s_Ii, s_Jj, s_Vn, forall_eq, L_m1, nI_add, nI_clamp, nI_leI, nI_ltI, nI_eq, vp_nI, pk_mul, pk_sub, Nat.zero_add, Nat.add_zero, wr_2, Classical.not_not, true_and, and_true, ne_eq, false_implies, true_implies, implies_true, not_true_eq_false, not_false_eq_true, ia_0, ia_1, za_1, ia_2, za_2, ia_3, za_3, ia_4, za_4, ia_5, za_5, ia_6, za_6, ia_7, za_7, ia_8, za_8, ia_9, za_9, ia_10, za_10, ia_11, za_11, ia_12, za_12, ia_13, za_13, ia_14, za_14, ia_15, za_15, ib_0, ib_1, zb_1, ic_0, ic_1, ic_2, ic_3, zc_1, zc_2, zc_3, id_0, id_1, id_2, id_3, zd_1, zd_2, zd_3, L_0, L_1, L_2, L_3, L_4, L_5, L_6, L_7, L_8, L_9, L_10, L_11, L_12, L_13, L_14, L_15, L_16, L_17, L_18, L_19, L_20, L_24, L_27, L_30, L_31, L_32, L_35, L_36, L_40, L_41, L_43, L_44, L_45, L_46, L_47, L_48, L_50, L_54, L_57, L_58, L_59, L_60, L_61, L_62, L_63, L_91, L_93, L_96, L_97, L_98, L_99, L_100, L_103, L_122, L_145, L_150, L_200, L_255, L_600, L_999, L_1000, L_2000, L_9999, L_10000, L_32767, L_12345, oI_s, oI_n, L_mn, if_true, if_false, ite_true, ite_false, Bool.false_eq_true, Nat.reduceEqDiff, Nat.reduceLeDiff, Nat.reduceLT, Nat.reduceAdd, Nat.reduceSub, Nat.reduceMul, Nat.le_refl, Nat.lt_irrefl, Nat.not_lt_zero]
      exact R_owedAll (hE1.f hu2 aS_lo) hr2 (hQ u2 (hf1.trans (hu2.mono sc_S)) ((hu2.2 _ _ rfl).trans h79))
  · skip
    refine agW_ok (nI (sm (fun d => S (20 + d)) (T 7 1))) hI (fun Q X hQ => ?_) (fun u hu Q X hQ => ?_)
    · apply eX11_told
      unfold vX11_told_0
      refine K_isIn ?_
      rw [p0]
      refine K_req1 ?_
      simp (decide := true) only [show Int32.toInt (nI 6) = 6 from rfl, forall_const, true_implies, false_implies, and_true, true_and, or_self, or_false, false_or, implies_true, s_Ii]
      exact K_inDefault hE (Or.inl rfl) hS (hQ w (fr.refl _ _))
    · have hCu := hC.sim hu
      have hE1 : RE T C n (q_wI u 79 0 0) := hCu.2.2.1.t
      have h79 : (q_wI u 79 0 0).1 79 0 = 0 := rd_s
      have hS1 : rR 104 S (q_wI u 79 0 0) := hCu.2.2.2.2.1.eq (fun j => rd_i (by omega))
      have hf1 : fr scr u (q_wI u 79 0 0) := scr_t
      apply eX12_told
      unfold vX12_told_0
      intro w1 hw1
      rw [← hw1] at hE1 h79 hS1 hf1
      refine R_within ?_
      rw [p0]
      refine R_may1 h79 ?_
      first | refine ⟨fun z => absurd z (by decide), fun _ => ?_⟩ | refine ⟨fun _ => ?_, fun z => absurd (show ¬ (1 : Int32) = 0 by decide) z⟩
      refine r_take hS1 (fun u2 hu2 hr2 => ?_)
      try simp (disch := omega) only [s_Ii, s_Jj, s_Vn, forall_eq, L_m1, nI_add, nI_clamp, nI_leI, nI_ltI, nI_eq, vp_nI, pk_mul, pk_sub, Nat.zero_add, Nat.add_zero, wr_2, Classical.not_not, true_and, and_true, ne_eq, false_implies, true_implies, implies_true, not_true_eq_false, not_false_eq_true, ia_0, ia_1, za_1, ia_2, za_2, ia_3, za_3, ia_4, za_4, ia_5, za_5, ia_6, za_6, ia_7, za_7, ia_8, za_8, ia_9, za_9, ia_10, za_10, ia_11, za_11, ia_12, za_12, ia_13, za_13, ia_14, za_14, ia_15, za_15, ib_0, ib_1, zb_1, ic_0, ic_1, ic_2, ic_3, zc_1, zc_2, zc_3, id_0, id_1, id_2, id_3, zd_1, zd_2, zd_3, L_0, L_1, L_2, L_3, L_4, L_5, L_6, L_7, L_8, L_9, L_10, L_11, L_12, L_13, L_14, L_15, L_16, L_17, L_18, L_19, L_20, L_24, L_27, L_30, L_31, L_32, L_35, L_36, L_40, L_41, L_43, L_44, L_45, L_46, L_47, L_48, L_50, L_54, L_57, L_58, L_59, L_60, L_61, L_62, L_63, L_91, L_93, L_96, L_97, L_98, L_99, L_100, L_103, L_122, L_145, L_150, L_200, L_255, L_600, L_999, L_1000, L_2000, L_9999, L_10000, L_32767, L_12345, oI_s, oI_n, L_mn, if_true, if_false, ite_true, ite_false, Bool.false_eq_true, Nat.reduceEqDiff, Nat.reduceLeDiff, Nat.reduceLT, Nat.reduceAdd, Nat.reduceSub, Nat.reduceMul, Nat.le_refl, Nat.lt_irrefl, Nat.not_lt_zero]
      exact R_lateAll (hE1.f hu2 aS_lo) hr2 (hQ u2 (hf1.trans (hu2.mono sc_S)) ((hu2.2 _ _ rfl).trans h79))
  · skip
    refine agW_ok (nI m) hI (fun Q X hQ => ?_) (fun u hu Q X hQ => ?_)
    · apply eX11_told
      unfold vX11_told_0
      refine K_isIn ?_
      rw [p0]
      refine K_req1 ?_
      simp (decide := true) only [show Int32.toInt (nI 7) = 7 from rfl, forall_const, true_implies, false_implies, and_true, true_and, or_self, or_false, false_or, implies_true, s_Ii]
      have hb := hC.2.2.2.2.2.2.2
      rw [hb.2.1]
      exact ⟨id_0 (by have := hC.1.2.2; omega), hQ w (fr.refl _ _)⟩
    · have hCu := hC.sim hu
      have hE1 : RE T C n (q_wI u 79 0 0) := hCu.2.2.1.t
      have h79 : (q_wI u 79 0 0).1 79 0 = 0 := rd_s
      have hS1 : rR 104 S (q_wI u 79 0 0) := hCu.2.2.2.2.1.eq (fun j => rd_i (by omega))
      have hf1 : fr scr u (q_wI u 79 0 0) := scr_t
      apply eX12_told
      unfold vX12_told_0
      intro w1 hw1
      rw [← hw1] at hE1 h79 hS1 hf1
      refine R_within ?_
      rw [p0]
      refine R_may1 h79 ?_
      first | refine ⟨fun z => absurd z (by decide), fun _ => ?_⟩ | refine ⟨fun _ => ?_, fun z => absurd (show ¬ (1 : Int32) = 0 by decide) z⟩
      refine r_take hS1 (fun u2 hu2 hr2 => ?_)
      have e : u2.1 79 55 = nI m := (hu2.2 _ _ rfl).trans ((hf1.2 _ _ rfl).trans hCu.2.2.2.2.2.2.2.2.2.1)
      try simp (disch := omega) only [s_Ii, s_Jj, s_Vn, forall_eq, L_m1, nI_add, nI_clamp, nI_leI, nI_ltI, nI_eq, vp_nI, pk_mul, pk_sub, Nat.zero_add, Nat.add_zero, wr_2, Classical.not_not, true_and, and_true, ne_eq, false_implies, true_implies, implies_true, not_true_eq_false, not_false_eq_true, ia_0, ia_1, za_1, ia_2, za_2, ia_3, za_3, ia_4, za_4, ia_5, za_5, ia_6, za_6, ia_7, za_7, ia_8, za_8, ia_9, za_9, ia_10, za_10, ia_11, za_11, ia_12, za_12, ia_13, za_13, ia_14, za_14, ia_15, za_15, ib_0, ib_1, zb_1, ic_0, ic_1, ic_2, ic_3, zc_1, zc_2, zc_3, id_0, id_1, id_2, id_3, zd_1, zd_2, zd_3, L_0, L_1, L_2, L_3, L_4, L_5, L_6, L_7, L_8, L_9, L_10, L_11, L_12, L_13, L_14, L_15, L_16, L_17, L_18, L_19, L_20, L_24, L_27, L_30, L_31, L_32, L_35, L_36, L_40, L_41, L_43, L_44, L_45, L_46, L_47, L_48, L_50, L_54, L_57, L_58, L_59, L_60, L_61, L_62, L_63, L_91, L_93, L_96, L_97, L_98, L_99, L_100, L_103, L_122, L_145, L_150, L_200, L_255, L_600, L_999, L_1000, L_2000, L_9999, L_10000, L_32767, L_12345, oI_s, oI_n, L_mn, if_true, if_false, ite_true, ite_false, Bool.false_eq_true, Nat.reduceEqDiff, Nat.reduceLeDiff, Nat.reduceLT, Nat.reduceAdd, Nat.reduceSub, Nat.reduceMul, Nat.le_refl, Nat.lt_irrefl, Nat.not_lt_zero, e]
      exact hQ u2 (hf1.trans (hu2.mono sc_S)) ((hu2.2 _ _ rfl).trans h79)
  · skip
    refine agW_ok (w.1 1 12) hI (fun Q X hQ => ?_) (fun u hu Q X hQ => ?_)
    · apply eX11_told
      unfold vX11_told_0
      refine K_isIn ?_
      rw [p0]
      refine K_req1 ?_
      simp (decide := true) only [show Int32.toInt (nI 8) = 8 from rfl, forall_const, true_implies, false_implies, and_true, true_and, or_self, or_false, false_or, implies_true, s_Ii]
      exact hQ w (fr.refl _ _)
    · have hCu := hC.sim hu
      have hE1 : RE T C n (q_wI u 79 0 0) := hCu.2.2.1.t
      have h79 : (q_wI u 79 0 0).1 79 0 = 0 := rd_s
      have hS1 : rR 104 S (q_wI u 79 0 0) := hCu.2.2.2.2.1.eq (fun j => rd_i (by omega))
      have hf1 : fr scr u (q_wI u 79 0 0) := scr_t
      apply eX12_told
      unfold vX12_told_0
      intro w1 hw1
      rw [← hw1] at hE1 h79 hS1 hf1
      refine R_within ?_
      rw [p0]
      refine R_may1 h79 ?_
      first | refine ⟨fun z => absurd z (by decide), fun _ => ?_⟩ | refine ⟨fun _ => ?_, fun z => absurd (show ¬ (1 : Int32) = 0 by decide) z⟩
      refine r_take hS1 (fun u2 hu2 hr2 => ?_)
      have e : u2.1 79 46 = w.1 1 12 := (hu2.2 _ _ rfl).trans ((hf1.2 _ _ rfl).trans ((hu.2 _ _ rfl).trans hCnt.2.2.1.symm))
      try simp (disch := omega) only [s_Ii, s_Jj, s_Vn, forall_eq, L_m1, nI_add, nI_clamp, nI_leI, nI_ltI, nI_eq, vp_nI, pk_mul, pk_sub, Nat.zero_add, Nat.add_zero, wr_2, Classical.not_not, true_and, and_true, ne_eq, false_implies, true_implies, implies_true, not_true_eq_false, not_false_eq_true, ia_0, ia_1, za_1, ia_2, za_2, ia_3, za_3, ia_4, za_4, ia_5, za_5, ia_6, za_6, ia_7, za_7, ia_8, za_8, ia_9, za_9, ia_10, za_10, ia_11, za_11, ia_12, za_12, ia_13, za_13, ia_14, za_14, ia_15, za_15, ib_0, ib_1, zb_1, ic_0, ic_1, ic_2, ic_3, zc_1, zc_2, zc_3, id_0, id_1, id_2, id_3, zd_1, zd_2, zd_3, L_0, L_1, L_2, L_3, L_4, L_5, L_6, L_7, L_8, L_9, L_10, L_11, L_12, L_13, L_14, L_15, L_16, L_17, L_18, L_19, L_20, L_24, L_27, L_30, L_31, L_32, L_35, L_36, L_40, L_41, L_43, L_44, L_45, L_46, L_47, L_48, L_50, L_54, L_57, L_58, L_59, L_60, L_61, L_62, L_63, L_91, L_93, L_96, L_97, L_98, L_99, L_100, L_103, L_122, L_145, L_150, L_200, L_255, L_600, L_999, L_1000, L_2000, L_9999, L_10000, L_32767, L_12345, oI_s, oI_n, L_mn, if_true, if_false, ite_true, ite_false, Bool.false_eq_true, Nat.reduceEqDiff, Nat.reduceLeDiff, Nat.reduceLT, Nat.reduceAdd, Nat.reduceSub, Nat.reduceMul, Nat.le_refl, Nat.lt_irrefl, Nat.not_lt_zero, e]
      exact hQ u2 (hf1.trans (hu2.mono sc_S)) ((hu2.2 _ _ rfl).trans h79)
theorem ag_grows (w : q_Sm) (hI : Inv w) (x1 : Int32) : ag_W Inv 998 1 er_N mX11_grows mX12_grows w [.int x1] := by
  obtain ⟨T, β, C, n, S, B, m, hC, hPst, hImg, hTp, hCnt⟩ := id hI
  have hE := hC.2.1
  have ht := hE.2.2.1
  have hRE := hC.2.2.1
  have hnc := tb_nc ht
  have hnd := tb_nd ht
  have hnw := tb_nw ht
  have hS := hC.2.2.2.1
  have hSr := hC.2.2.2.2.1
  have hok := hC.2.2.2.2.2.1
  have hβ := hE.ord
  rcases rngc x1 (T 7 1) (by omega) with ⟨j1, g1, rfl⟩ | e0
  rotate_left
  · have e0 : r_in x1 0 (nI (T 7 1) - 1) = 0 := e0
    refine agW_no hI "java/util/NoSuchElementException" (nI 1) 13 0 (by omega) (⟨rfl, rfl⟩) (fun Q X hX => ?_) (fun u hu Q X hQ => ?_)
    · apply eX11_grows
      unfold vX11_grows_0
      exact K_debt hE (fun _ => hX) (fun z => absurd (z.symm.trans e0) (by decide))
    · have hE1 : RE T C n (q_wI u 79 0 0) := (hRE.n1 hu).t
      have h79 : (q_wI u 79 0 0).1 79 0 = 0 := rd_s
      apply eX12_grows
      unfold vX12_grows_0
      rintro _ rfl
      refine R_debt0 (k := 1) hE1 (by omega) (by omega) e0 ?_
      first | exact ⟨fun _ => ⟨_, rfl, hQ⟩, fun z => absurd rfl z⟩ | exact ⟨fun z => absurd rfl z, fun _ => ⟨_, rfl, hQ⟩⟩
  have p0 : r_in (nI j1) 0 (nI (T 7 1) - 1) = 1 := r_inc g1 (by omega)
  refine agW_ok (nI (gw T C n S j1 (S j1) (S (40 + j1)) (S 62))) hI (fun Q X hQ => ?_) (fun u hu Q X hQ => ?_)
  · apply eX11_grows
    unfold vX11_grows_0
    refine K_debt hE (fun z => absurd (z.symm.trans p0) (by decide)) (fun _ => ?_)
    have b1 := hok.1.1.1 j1 g1
    refine K_growth hE (Or.inl rfl) hS g1 ⟨b1.1, b1.2.1⟩ hok.1.1.2.2 (fun u hu => ?_)
    exact ⟨_, rfl, hQ u (hu.mono sc_L)⟩
  · have hCu := hC.sim hu
    have hE1 : RE T C n (q_wI u 79 0 0) := hCu.2.2.1.t
    have h79 : (q_wI u 79 0 0).1 79 0 = 0 := rd_s
    have hS1 : rR 104 S (q_wI u 79 0 0) := hCu.2.2.2.2.1.eq (fun j => rd_i (by omega))
    have hf1 : fr scr u (q_wI u 79 0 0) := scr_t
    apply eX12_grows
    unfold vX12_grows_0
    intro w1 hw1
    rw [← hw1] at hE1 h79 hS1 hf1
    refine R_debt1 hE1 h79 p0 ?_
    first | refine ⟨fun z => absurd z (by decide), fun _ => ?_⟩ | refine ⟨fun _ => ?_, fun z => absurd (show ¬ (1 : Int32) = 0 by decide) z⟩
    refine r_take hS1 (fun u2 hu2 hr2 => ?_)
    have b1 := hok.1.1.1 j1 g1
    refine r_growsOf (hE1.f hu2 aS_lo) hr2 ⟨b1.1, b1.2.1⟩ hok.1.1.2.2 g1 (fun u3 hu3 => ?_)
    have hu3' := hu2.trans (hu3.mono aG_aS)
    exact ⟨_, rfl, hQ u3 (hf1.trans (hu3'.mono sc_S)) ((hu3'.2 _ _ rfl).trans h79)⟩
theorem ag_dusk (w : q_Sm) (hI : Inv w) (x1 : Int32) (x2 : Int32) : ag_W Inv 998 1 er_I mX11_dusk mX12_dusk w [.int x1, .int x2] := by
  obtain ⟨T, β, C, n, S, B, m, hC, hPst, hImg, hTp, hCnt⟩ := id hI
  have hE := hC.2.1
  have ht := hE.2.2.1
  have hRE := hC.2.2.1
  have hnc := tb_nc ht
  have hnd := tb_nd ht
  have hnw := tb_nw ht
  have hS := hC.2.2.2.1
  have hSr := hC.2.2.2.2.1
  have hok := hC.2.2.2.2.2.1
  have hβ := hE.ord
  rcases rng x1 200 (by omega) with ⟨j1, g1, rfl⟩ | e0
  rotate_left
  · have e0 : r_in x1 0 200 = 0 := e0
    refine agW_no hI "java/lang/IllegalArgumentException" (nI 1) 14 1 (by omega) (⟨rfl, rfl⟩) (fun Q X hX => ?_) (fun u hu Q X hQ => ?_)
    · apply eX11_dusk
      unfold vX11_dusk_0
      refine K_isDusk ?_
      rw [e0]
      exact ⟨fun _ => K_req0 hX, fun z => absurd rfl z⟩
    · have hE1 : RE T C n (q_wI u 79 0 0) := (hRE.n1 hu).t
      have h79 : (q_wI u 79 0 0).1 79 0 = 0 := rd_s
      apply eX12_dusk
      unfold vX12_dusk_0
      rintro _ rfl
      refine R_isDusk ?_
      rw [e0]
      refine ⟨fun _ => R_no (k := 1) (t := 1) (by omega) (by omega) (by omega) ?_, fun z => absurd rfl z⟩
      first | exact ⟨fun _ => ⟨_, rfl, hQ⟩, fun z => absurd rfl z⟩ | exact ⟨fun z => absurd rfl z, fun _ => ⟨_, rfl, hQ⟩⟩
  have p0 : r_in (nI j1) 0 200 = 1 := r_in1 (a := 0) (b := 200) (by omega) (by omega) (by omega)
  rcases rng x2 3 (by omega) with ⟨j2, g2, rfl⟩ | e1
  rotate_left
  · have e1 : r_in x2 0 3 = 0 := e1
    refine agW_no hI "java/lang/IllegalArgumentException" (nI 1) 14 1 (by omega) (⟨rfl, rfl⟩) (fun Q X hX => ?_) (fun u hu Q X hQ => ?_)
    · apply eX11_dusk
      unfold vX11_dusk_0
      refine K_isDusk ?_
      rw [p0]
      refine ⟨fun z => absurd z (by decide), fun _ => ?_⟩
      refine K_isColour ?_
      rw [e1]
      exact ⟨fun _ => K_req0 hX, fun z => absurd rfl z⟩
    · have hE1 : RE T C n (q_wI u 79 0 0) := (hRE.n1 hu).t
      have h79 : (q_wI u 79 0 0).1 79 0 = 0 := rd_s
      apply eX12_dusk
      unfold vX12_dusk_0
      rintro _ rfl
      refine R_isDusk ?_
      rw [p0]
      refine ⟨fun z => absurd z (by decide), fun _ => ?_⟩
      refine R_isColour ?_
      rw [e1]
      refine ⟨fun _ => R_no (k := 1) (t := 1) (by omega) (by omega) (by omega) ?_, fun z => absurd rfl z⟩
      first | exact ⟨fun _ => ⟨_, rfl, hQ⟩, fun z => absurd rfl z⟩ | exact ⟨fun z => absurd rfl z, fun _ => ⟨_, rfl, hQ⟩⟩
  have p1 : r_in (nI j2) 0 3 = 1 := r_in1 (a := 0) (b := 3) (by omega) (by omega) (by omega)
  refine agW_ok (nI (m_light T j1 j2)) hI (fun Q X hQ => ?_) (fun u hu Q X hQ => ?_)
  · apply eX11_dusk
    unfold vX11_dusk_0
    refine K_isDusk ?_
    rw [p0]
    refine ⟨fun z => absurd z (by decide), fun _ => ?_⟩
    refine K_isColour ?_
    rw [p1]
    refine ⟨fun z => absurd z (by decide), fun _ => K_req1 ?_⟩
    exact ⟨ia_0 hE.1, K_shine hE (by omega) (by omega) ⟨_, rfl, hQ w (fr.refl _ _)⟩⟩
  · have hCu := hC.sim hu
    have hE1 : RE T C n (q_wI u 79 0 0) := hCu.2.2.1.t
    have h79 : (q_wI u 79 0 0).1 79 0 = 0 := rd_s
    have hS1 : rR 104 S (q_wI u 79 0 0) := hCu.2.2.2.2.1.eq (fun j => rd_i (by omega))
    have hf1 : fr scr u (q_wI u 79 0 0) := scr_t
    apply eX12_dusk
    unfold vX12_dusk_0
    intro w1 hw1
    rw [← hw1] at hE1 h79 hS1 hf1
    refine R_isDusk ?_
    rw [p0]
    refine ⟨fun z => absurd z (by decide), fun _ => ?_⟩
    refine R_isColour ?_
    rw [p1]
    refine ⟨fun z => absurd z (by decide), fun _ => R_may1 h79 ?_⟩
    first | refine ⟨fun z => absurd z (by decide), fun _ => ?_⟩ | refine ⟨fun _ => ?_, fun z => absurd (show ¬ (1 : Int32) = 0 by decide) z⟩
    exact R_lightOf hE1 (by omega) (by omega) ⟨_, rfl, hQ _ hf1 h79⟩
theorem ag_soon (w : q_Sm) (hI : Inv w) : ag_D Inv 999 mX11_soon mX12_soon w [] := by
  obtain ⟨T, β, C, n, S, B, m, hC, hPst, hImg, hTp, hCnt⟩ := id hI
  have hE := hC.2.1
  have ht := hE.2.2.1
  have hRE := hC.2.2.1
  have hnc := tb_nc ht
  have hnd := tb_nd ht
  have hnw := tb_nw ht
  have hS := hC.2.2.2.1
  have hSr := hC.2.2.2.2.1
  have hok := hC.2.2.2.2.2.1
  have hβ := hE.ord
  refine agD_ok (oI (snF T β C n 61 S)) hI (fun Q X hQ => ?_) (fun u hu Q X hQ => ?_)
  · apply eX11_soon
    unfold vX11_soon_0
    exact K_duskOf hE hS hok.1 (fun u hu => ⟨_, rfl, hQ u (hu.mono sc_F)⟩)
  · have hCu := hC.sim hu
    have hE1 : RE T C n (q_wI u 79 0 0) := hCu.2.2.1.t
    have h79 : (q_wI u 79 0 0).1 79 0 = 0 := rd_s
    have hS1 : rR 104 S (q_wI u 79 0 0) := hCu.2.2.2.2.1.eq (fun j => rd_i (by omega))
    have hf1 : fr scr u (q_wI u 79 0 0) := scr_t
    apply eX12_soon
    unfold vX12_soon_0
    intro w1 hw1
    rw [← hw1] at hE1 h79 hS1 hf1
    refine r_take hS1 (fun u2 hu2 hr2 => ?_)
    refine r_soonL (hE1.f hu2 aS_lo) hβ ((hu2.2 _ _ rfl).trans (hS1 62 (by omega))) hr2 hok.1 (fun u3 hu3 => ?_)
    exact hQ u3 (hf1.trans ((hu2.trans hu3).mono sc_S))
theorem ag_left (w : q_Sm) (hI : Inv w) (x1 : Int32) : ag_W Inv 998 1 er_I mX11_left mX12_left w [.int x1] := by
  obtain ⟨T, β, C, n, S, B, m, hC, hPst, hImg, hTp, hCnt⟩ := id hI
  have hE := hC.2.1
  have ht := hE.2.2.1
  have hRE := hC.2.2.1
  have hnc := tb_nc ht
  have hnd := tb_nd ht
  have hnw := tb_nw ht
  have hS := hC.2.2.2.1
  have hSr := hC.2.2.2.2.1
  have hok := hC.2.2.2.2.2.1
  have hβ := hE.ord
  rcases rng x1 60 (by omega) with ⟨j1, g1, rfl⟩ | e0
  rotate_left
  · have e0 : r_in x1 0 60 = 0 := e0
    refine agW_no hI "java/lang/IllegalArgumentException" (nI 1) 14 1 (by omega) (⟨rfl, rfl⟩) (fun Q X hX => ?_) (fun u hu Q X hQ => ?_)
    · apply eX11_left
      unfold vX11_left_0
      refine K_isIn ?_
      rw [e0]
      exact K_req0 hX
    · have hE1 : RE T C n (q_wI u 79 0 0) := (hRE.n1 hu).t
      have h79 : (q_wI u 79 0 0).1 79 0 = 0 := rd_s
      apply eX12_left
      unfold vX12_left_0
      rintro _ rfl
      refine R_within ?_
      rw [e0]
      refine R_no (k := 1) (t := 1) (by omega) (by omega) (by omega) ?_
      first | exact ⟨fun _ => ⟨_, rfl, hQ⟩, fun z => absurd rfl z⟩ | exact ⟨fun z => absurd rfl z, fun _ => ⟨_, rfl, hQ⟩⟩
  have p0 : r_in (nI j1) 0 60 = 1 := r_in1 (a := 0) (b := 60) (by omega) (by omega) (by omega)
  refine agW_ok (nI (sm (stN T β C n S j1) (T 7 1))) hI (fun Q X hQ => ?_) (fun u hu Q X hQ => ?_)
  · apply eX11_left
    unfold vX11_left_0
    refine K_isIn ?_
    rw [p0]
    refine K_req1 ?_
    exact K_owedBehind hE hS hok.1 g1 (fun u hu => ⟨_, rfl, hQ u (hu.mono sc_F)⟩)
  · have hCu := hC.sim hu
    have hE1 : RE T C n (q_wI u 79 0 0) := hCu.2.2.1.t
    have h79 : (q_wI u 79 0 0).1 79 0 = 0 := rd_s
    have hS1 : rR 104 S (q_wI u 79 0 0) := hCu.2.2.2.2.1.eq (fun j => rd_i (by omega))
    have hf1 : fr scr u (q_wI u 79 0 0) := scr_t
    apply eX12_left
    unfold vX12_left_0
    intro w1 hw1
    rw [← hw1] at hE1 h79 hS1 hf1
    refine R_within ?_
    rw [p0]
    refine R_may1 h79 ?_
    first | refine ⟨fun z => absurd z (by decide), fun _ => ?_⟩ | refine ⟨fun _ => ?_, fun z => absurd (show ¬ (1 : Int32) = 0 by decide) z⟩
    refine r_take hS1 (fun u2 hu2 hr2 => ?_)
    refine r_leftL (hE1.f hu2 aS_lo) hβ hr2 hok.1 g1 (fun u3 hu3 => ?_)
    exact hQ u3 (hf1.trans ((hu2.trans hu3).mono sc_S)) (((hu2.trans hu3).2 _ _ rfl).trans h79)
theorem ag_delay (w : q_Sm) (hI : Inv w) (x1 : Int32) (x2 : Int32) : ag_W Inv 998 2 er_B mX11_delay mX12_delay w [.int x1, .int x2] := by
  obtain ⟨T, β, C, n, S, B, m, hC, hPst, hImg, hTp, hCnt⟩ := id hI
  have hE := hC.2.1
  have ht := hE.2.2.1
  have hRE := hC.2.2.1
  have hnc := tb_nc ht
  have hnd := tb_nd ht
  have hnw := tb_nw ht
  have hS := hC.2.2.2.1
  have hSr := hC.2.2.2.2.1
  have hok := hC.2.2.2.2.2.1
  have hβ := hE.ord
  rcases rngc x1 (T 7 1) (by omega) with ⟨j1, g1, rfl⟩ | e0
  rotate_left
  · have e0 : r_in x1 0 (nI (T 7 1) - 1) = 0 := e0
    refine agW_no hI "java/util/NoSuchElementException" (nI 1) 13 0 (by omega) (Or.inl ⟨rfl, rfl⟩) (fun Q X hX => ?_) (fun u hu Q X hQ => ?_)
    · apply eX11_delay
      unfold vX11_delay_0
      exact K_debt hE (fun _ => hX) (fun z => absurd (z.symm.trans e0) (by decide))
    · have hE1 : RE T C n (q_wI u 79 0 0) := (hRE.n1 hu).t
      have h79 : (q_wI u 79 0 0).1 79 0 = 0 := rd_s
      apply eX12_delay
      unfold vX12_delay_0
      rintro _ rfl
      refine R_debt0 (k := 1) hE1 (by omega) (by omega) e0 ?_
      first | exact ⟨fun _ => ⟨_, rfl, hQ⟩, fun z => absurd rfl z⟩ | exact ⟨fun z => absurd rfl z, fun _ => ⟨_, rfl, hQ⟩⟩
  have p0 : r_in (nI j1) 0 (nI (T 7 1) - 1) = 1 := r_inc g1 (by omega)
  rcases rng x2 9999 (by omega) with ⟨j2, g2, rfl⟩ | e1
  rotate_left
  · have e1 : r_in x2 0 9999 = 0 := e1
    refine agW_no hI "java/lang/IllegalArgumentException" (nI 2) 14 1 (by omega) (Or.inr ⟨rfl, rfl⟩) (fun Q X hX => ?_) (fun u hu Q X hQ => ?_)
    · apply eX11_delay
      unfold vX11_delay_0
      refine K_debt hE (fun z => absurd (z.symm.trans p0) (by decide)) (fun _ => ?_)
      refine K_isIn ?_
      rw [e1]
      exact K_req0 hX
    · have hE1 : RE T C n (q_wI u 79 0 0) := (hRE.n1 hu).t
      have h79 : (q_wI u 79 0 0).1 79 0 = 0 := rd_s
      apply eX12_delay
      unfold vX12_delay_0
      rintro _ rfl
      refine R_debt1 hE1 h79 p0 ?_
      first | refine ⟨fun z => absurd z (by decide), fun _ => ?_⟩ | refine ⟨fun _ => ?_, fun z => absurd (show ¬ (1 : Int32) = 0 by decide) z⟩
      refine R_within ?_
      rw [e1]
      refine R_no (k := 2) (t := 1) (by omega) (by omega) (by omega) ?_
      first | exact ⟨fun _ => ⟨_, rfl, hQ⟩, fun z => absurd rfl z⟩ | exact ⟨fun z => absurd rfl z, fun _ => ⟨_, rfl, hQ⟩⟩
  have p1 : r_in (nI j2) 0 9999 = 1 := r_in1 (a := 0) (b := 9999) (by omega) (by omega) (by omega)
  refine agW_ok (if S j1 ≤ j2 then nI (dl T C n j2 j1 60 S 0) else oI none) hI (fun Q X hQ => ?_) (fun u hu Q X hQ => ?_)
  · apply eX11_delay
    unfold vX11_delay_0
    refine K_debt hE (fun z => absurd (z.symm.trans p0) (by decide)) (fun _ => ?_)
    refine K_isIn ?_
    rw [p1]
    refine K_req1 ?_
    refine K_dusksToWait hE hS hok.1 g1 (by omega) (fun z => ?_) (fun z u hu => ?_)
    · rw [if_neg z] at hQ
      exact ⟨_, rfl, hQ w (fr.refl _ _)⟩
    · rw [if_pos z] at hQ
      exact ⟨_, rfl, hQ u (hu.mono sc_F)⟩
  · have hCu := hC.sim hu
    have hE1 : RE T C n (q_wI u 79 0 0) := hCu.2.2.1.t
    have h79 : (q_wI u 79 0 0).1 79 0 = 0 := rd_s
    have hS1 : rR 104 S (q_wI u 79 0 0) := hCu.2.2.2.2.1.eq (fun j => rd_i (by omega))
    have hf1 : fr scr u (q_wI u 79 0 0) := scr_t
    apply eX12_delay
    unfold vX12_delay_0
    intro w1 hw1
    rw [← hw1] at hE1 h79 hS1 hf1
    refine R_debt1 hE1 h79 p0 ?_
    first | refine ⟨fun z => absurd z (by decide), fun _ => ?_⟩ | refine ⟨fun _ => ?_, fun z => absurd (show ¬ (1 : Int32) = 0 by decide) z⟩
    refine R_within ?_
    rw [p1]
    refine R_may1 h79 ?_
    first | refine ⟨fun z => absurd z (by decide), fun _ => ?_⟩ | refine ⟨fun _ => ?_, fun z => absurd (show ¬ (1 : Int32) = 0 by decide) z⟩
    have b1 := hok.1.1.1 j1 g1
    refine r_take hS1 (fun u2 hu2 hr2 => ?_)
    try simp (disch := omega) only [s_Ii, s_Jj, s_Vn, forall_eq, L_m1, nI_add, nI_clamp, nI_leI, nI_ltI, nI_eq, vp_nI, pk_mul, pk_sub, Nat.zero_add, Nat.add_zero, wr_2, Classical.not_not, true_and, and_true, ne_eq, false_implies, true_implies, implies_true, not_true_eq_false, not_false_eq_true, ia_0, ia_1, za_1, ia_2, za_2, ia_3, za_3, ia_4, za_4, ia_5, za_5, ia_6, za_6, ia_7, za_7, ia_8, za_8, ia_9, za_9, ia_10, za_10, ia_11, za_11, ia_12, za_12, ia_13, za_13, ia_14, za_14, ia_15, za_15, ib_0, ib_1, zb_1, ic_0, ic_1, ic_2, ic_3, zc_1, zc_2, zc_3, id_0, id_1, id_2, id_3, zd_1, zd_2, zd_3, L_0, L_1, L_2, L_3, L_4, L_5, L_6, L_7, L_8, L_9, L_10, L_11, L_12, L_13, L_14, L_15, L_16, L_17, L_18, L_19, L_20, L_24, L_27, L_30, L_31, L_32, L_35, L_36, L_40, L_41, L_43, L_44, L_45, L_46, L_47, L_48, L_50, L_54, L_57, L_58, L_59, L_60, L_61, L_62, L_63, L_91, L_93, L_96, L_97, L_98, L_99, L_100, L_103, L_122, L_145, L_150, L_200, L_255, L_600, L_999, L_1000, L_2000, L_9999, L_10000, L_32767, L_12345, oI_s, oI_n, L_mn, if_true, if_false, ite_true, ite_false, Bool.false_eq_true, Nat.reduceEqDiff, Nat.reduceLeDiff, Nat.reduceLT, Nat.reduceAdd, Nat.reduceSub, Nat.reduceMul, Nat.le_refl, Nat.lt_irrefl, Nat.not_lt_zero, hr2 _]
    refine ⟨by omega, fun z => ?_, fun z => ?_⟩
    · rw [if_pos z] at hQ
      refine r_delayL (hE1.f hu2 aS_lo) hr2 hok.1 g1 (by omega) (fun u3 hu3 => ?_)
      exact hQ u3 (hf1.trans ((hu2.trans hu3).mono sc_S)) (((hu2.trans hu3).2 _ _ rfl).trans h79)
    · rw [if_neg z] at hQ
      exact hQ u2 (hf1.trans (hu2.mono sc_S)) ((hu2.2 _ _ rfl).trans h79)
