/-! agreements: creditors, debts, light, the law, loans, the sea -/
theorem ag_creditor (w : q_Sm) (hI : Inv w) (x1 : Int32) (x2 : Int32) : ag_W Inv 998 2 er_B mX11_creditor mX12_creditor w [.int x1, .int x2] := by
  obtain ⟨T, β, C, n, S, B, m, hC, hPst, hImg, hTp, hCnt⟩ := id hI
  have hE := hC.2.1
  have ht := hE.2.2.1
  have hRE := hC.2.2.1
  have hnc := tb_nc ht
  have hnd := tb_nd ht
  have hnw := tb_nw ht
  have hS := hC.2.2.2.1
  have hSr := hC.2.2.2.2.1
  have hok := hC.2.2.2.2.2.1
  have hβ := hE.ord
  rcases rngc x1 (T 7 0) (by omega) with ⟨j1, g1, rfl⟩ | e0
  rotate_left
  · have e0 : r_in x1 0 (nI (T 7 0) - 1) = 0 := e0
    refine agW_no hI "java/util/NoSuchElementException" (nI 1) 13 0 (by omega) (Or.inl ⟨rfl, rfl⟩) (fun Q X hX => ?_) (fun u hu Q X hQ => ?_)
    · apply eX11_creditor
      unfold vX11_creditor_0
      exact K_cred hE (fun _ => hX) (fun z => absurd (z.symm.trans e0) (by decide))
    · have hE1 : RE T C n (q_wI u 79 0 0) := (hRE.n1 hu).t
      have h79 : (q_wI u 79 0 0).1 79 0 = 0 := rd_s
      apply eX12_creditor
      unfold vX12_creditor_0
      rintro _ rfl
      refine R_cred0 (k := 1) hE1 (by omega) (by omega) e0 ?_
      first | exact ⟨fun _ => ⟨_, rfl, hQ⟩, fun z => absurd rfl z⟩ | exact ⟨fun z => absurd rfl z, fun _ => ⟨_, rfl, hQ⟩⟩
  have p0 : r_in (nI j1) 0 (nI (T 7 0) - 1) = 1 := r_inc g1 (by omega)
  rcases rng x2 3 (by omega) with ⟨j2, g2, rfl⟩ | e1
  rotate_left
  · have e1 : r_in x2 0 3 = 0 := e1
    refine agW_no hI "java/lang/IllegalArgumentException" (nI 2) 14 1 (by omega) (Or.inr ⟨rfl, rfl⟩) (fun Q X hX => ?_) (fun u hu Q X hQ => ?_)
    · apply eX11_creditor
      unfold vX11_creditor_0
      refine K_cred hE (fun z => absurd (z.symm.trans p0) (by decide)) (fun _ => ?_)
      refine K_isIn ?_
      rw [e1]
      exact K_req0 hX
    · have hE1 : RE T C n (q_wI u 79 0 0) := (hRE.n1 hu).t
      have h79 : (q_wI u 79 0 0).1 79 0 = 0 := rd_s
      apply eX12_creditor
      unfold vX12_creditor_0
      rintro _ rfl
      refine R_cred1 hE1 h79 p0 ?_
      first | refine ⟨fun z => absurd z (by decide), fun _ => ?_⟩ | refine ⟨fun _ => ?_, fun z => absurd (show ¬ (1 : Int32) = 0 by decide) z⟩
      refine R_within ?_
      rw [e1]
      refine R_no (k := 2) (t := 1) (by omega) (by omega) (by omega) ?_
      first | exact ⟨fun _ => ⟨_, rfl, hQ⟩, fun z => absurd rfl z⟩ | exact ⟨fun z => absurd rfl z, fun _ => ⟨_, rfl, hQ⟩⟩
  have p1 : r_in (nI j2) 0 3 = 1 := r_in1 (a := 0) (b := 3) (by omega) (by omega) (by omega)
  have hoo := hE.1
  obtain rfl | rfl | rfl | rfl : j2 = 0 ∨ j2 = 1 ∨ j2 = 2 ∨ j2 = 3 := by omega
  · skip
    refine agW_ok (nI (T 0 (2 * j1))) hI (fun Q X hQ => ?_) (fun u hu Q X hQ => ?_)
    · apply eX11_creditor
      unfold vX11_creditor_0
      refine K_cred hE (fun z => absurd (z.symm.trans p0) (by decide)) (fun _ => ?_)
      refine K_isIn ?_
      rw [p1]
      refine K_req1 ?_
      simp (decide := true) only [show Int32.toInt (nI 0) = 0 from rfl, forall_const, true_implies, false_implies, and_true, true_and, or_self, or_false, false_or, implies_true, s_Ii]
      try simp (disch := omega) only [s_Ii, s_Jj, s_Vn, forall_eq, L_m1, nI_add, nI_clamp, nI_leI, nI_ltI, nI_eq, vp_nI, pk_mul, pk_sub, Nat.zero_add, Nat.add_zero, wr_2, Classical.not_not, true_and, and_true, ne_eq, false_implies, true_implies, implies_true, not_true_eq_false, not_false_eq_true, ia_0, ia_1, za_1, ia_2, za_2, ia_3, za_3, ia_4, za_4, ia_5, za_5, ia_6, za_6, ia_7, za_7, ia_8, za_8, ia_9, za_9, ia_10, za_10, ia_11, za_11, ia_12, za_12, ia_13, za_13, ia_14, za_14, ia_15, za_15, ib_0, ib_1, zb_1, ic_0, ic_1, ic_2, ic_3, zc_1, zc_2, zc_3, id_0, id_1, id_2, id_3, zd_1, zd_2, zd_3, L_0, L_1, L_2, L_3, L_4, L_5, L_6, L_7, L_8, L_9, L_10, L_11, L_12, L_13, L_14, L_15, L_16, L_17, L_18, L_19, L_20, L_24, L_27, L_30, L_31, L_32, L_35, L_36, L_40, L_41, L_43, L_44, L_45, L_46, L_47, L_48, L_50, L_54, L_57, L_58, L_59, L_60, L_61, L_62, L_63, L_91, L_93, L_96, L_97, L_98, L_99, L_100, L_103, L_122, L_145, L_150, L_200, L_255, L_600, L_999, L_1000, L_2000, L_9999, L_10000, L_32767, L_12345, oI_s, oI_n, L_mn, if_true, if_false, ite_true, ite_false, Bool.false_eq_true, Nat.reduceEqDiff, Nat.reduceLeDiff, Nat.reduceLT, Nat.reduceAdd, Nat.reduceSub, Nat.reduceMul, Nat.le_refl, Nat.lt_irrefl, Nat.not_lt_zero, hE.cell g1]
      exact ⟨by omega, hQ w (fr.refl _ _)⟩
    · have hCu := hC.sim hu
      have hE1 : RE T C n (q_wI u 79 0 0) := hCu.2.2.1.t
      have h79 : (q_wI u 79 0 0).1 79 0 = 0 := rd_s
      have hS1 : rR 104 S (q_wI u 79 0 0) := hCu.2.2.2.2.1.eq (fun j => rd_i (by omega))
      have hf1 : fr scr u (q_wI u 79 0 0) := scr_t
      apply eX12_creditor
      unfold vX12_creditor_0
      intro w1 hw1
      rw [← hw1] at hE1 h79 hS1 hf1
      refine R_cred1 hE1 h79 p0 ?_
      first | refine ⟨fun z => absurd z (by decide), fun _ => ?_⟩ | refine ⟨fun _ => ?_, fun z => absurd (show ¬ (1 : Int32) = 0 by decide) z⟩
      refine R_within ?_
      rw [p1]
      refine R_may1 h79 ?_
      first | refine ⟨fun z => absurd z (by decide), fun _ => ?_⟩ | refine ⟨fun _ => ?_, fun z => absurd (show ¬ (1 : Int32) = 0 by decide) z⟩
      have e := hE1.2.1.2.1 (2 * j1) (by omega)
      try simp (disch := omega) only [s_Ii, s_Jj, s_Vn, forall_eq, L_m1, nI_add, nI_clamp, nI_leI, nI_ltI, nI_eq, vp_nI, pk_mul, pk_sub, Nat.zero_add, Nat.add_zero, wr_2, Classical.not_not, true_and, and_true, ne_eq, false_implies, true_implies, implies_true, not_true_eq_false, not_false_eq_true, ia_0, ia_1, za_1, ia_2, za_2, ia_3, za_3, ia_4, za_4, ia_5, za_5, ia_6, za_6, ia_7, za_7, ia_8, za_8, ia_9, za_9, ia_10, za_10, ia_11, za_11, ia_12, za_12, ia_13, za_13, ia_14, za_14, ia_15, za_15, ib_0, ib_1, zb_1, ic_0, ic_1, ic_2, ic_3, zc_1, zc_2, zc_3, id_0, id_1, id_2, id_3, zd_1, zd_2, zd_3, L_0, L_1, L_2, L_3, L_4, L_5, L_6, L_7, L_8, L_9, L_10, L_11, L_12, L_13, L_14, L_15, L_16, L_17, L_18, L_19, L_20, L_24, L_27, L_30, L_31, L_32, L_35, L_36, L_40, L_41, L_43, L_44, L_45, L_46, L_47, L_48, L_50, L_54, L_57, L_58, L_59, L_60, L_61, L_62, L_63, L_91, L_93, L_96, L_97, L_98, L_99, L_100, L_103, L_122, L_145, L_150, L_200, L_255, L_600, L_999, L_1000, L_2000, L_9999, L_10000, L_32767, L_12345, oI_s, oI_n, L_mn, if_true, if_false, ite_true, ite_false, Bool.false_eq_true, Nat.reduceEqDiff, Nat.reduceLeDiff, Nat.reduceLT, Nat.reduceAdd, Nat.reduceSub, Nat.reduceMul, Nat.le_refl, Nat.lt_irrefl, Nat.not_lt_zero, e]
      exact ⟨by omega, hQ _ hf1 h79⟩
  · skip
    refine agW_ok (nI (T 0 (2 * j1 + 1))) hI (fun Q X hQ => ?_) (fun u hu Q X hQ => ?_)
    · apply eX11_creditor
      unfold vX11_creditor_0
      refine K_cred hE (fun z => absurd (z.symm.trans p0) (by decide)) (fun _ => ?_)
      refine K_isIn ?_
      rw [p1]
      refine K_req1 ?_
      simp (decide := true) only [show Int32.toInt (nI 1) = 1 from rfl, forall_const, true_implies, false_implies, and_true, true_and, or_self, or_false, false_or, implies_true, s_Ii]
      have e : w.1 (w.2.2.1 + 2) j1 = nI (T 0 (2 * j1 + 1)) := hE.2.2.2.1.2.1.2 j1 g1
      try simp (disch := omega) only [s_Ii, s_Jj, s_Vn, forall_eq, L_m1, nI_add, nI_clamp, nI_leI, nI_ltI, nI_eq, vp_nI, pk_mul, pk_sub, Nat.zero_add, Nat.add_zero, wr_2, Classical.not_not, true_and, and_true, ne_eq, false_implies, true_implies, implies_true, not_true_eq_false, not_false_eq_true, ia_0, ia_1, za_1, ia_2, za_2, ia_3, za_3, ia_4, za_4, ia_5, za_5, ia_6, za_6, ia_7, za_7, ia_8, za_8, ia_9, za_9, ia_10, za_10, ia_11, za_11, ia_12, za_12, ia_13, za_13, ia_14, za_14, ia_15, za_15, ib_0, ib_1, zb_1, ic_0, ic_1, ic_2, ic_3, zc_1, zc_2, zc_3, id_0, id_1, id_2, id_3, zd_1, zd_2, zd_3, L_0, L_1, L_2, L_3, L_4, L_5, L_6, L_7, L_8, L_9, L_10, L_11, L_12, L_13, L_14, L_15, L_16, L_17, L_18, L_19, L_20, L_24, L_27, L_30, L_31, L_32, L_35, L_36, L_40, L_41, L_43, L_44, L_45, L_46, L_47, L_48, L_50, L_54, L_57, L_58, L_59, L_60, L_61, L_62, L_63, L_91, L_93, L_96, L_97, L_98, L_99, L_100, L_103, L_122, L_145, L_150, L_200, L_255, L_600, L_999, L_1000, L_2000, L_9999, L_10000, L_32767, L_12345, oI_s, oI_n, L_mn, if_true, if_false, ite_true, ite_false, Bool.false_eq_true, Nat.reduceEqDiff, Nat.reduceLeDiff, Nat.reduceLT, Nat.reduceAdd, Nat.reduceSub, Nat.reduceMul, Nat.le_refl, Nat.lt_irrefl, Nat.not_lt_zero, e]
      exact ⟨by omega, hQ w (fr.refl _ _)⟩
    · have hCu := hC.sim hu
      have hE1 : RE T C n (q_wI u 79 0 0) := hCu.2.2.1.t
      have h79 : (q_wI u 79 0 0).1 79 0 = 0 := rd_s
      have hS1 : rR 104 S (q_wI u 79 0 0) := hCu.2.2.2.2.1.eq (fun j => rd_i (by omega))
      have hf1 : fr scr u (q_wI u 79 0 0) := scr_t
      apply eX12_creditor
      unfold vX12_creditor_0
      intro w1 hw1
      rw [← hw1] at hE1 h79 hS1 hf1
      refine R_cred1 hE1 h79 p0 ?_
      first | refine ⟨fun z => absurd z (by decide), fun _ => ?_⟩ | refine ⟨fun _ => ?_, fun z => absurd (show ¬ (1 : Int32) = 0 by decide) z⟩
      refine R_within ?_
      rw [p1]
      refine R_may1 h79 ?_
      first | refine ⟨fun z => absurd z (by decide), fun _ => ?_⟩ | refine ⟨fun _ => ?_, fun z => absurd (show ¬ (1 : Int32) = 0 by decide) z⟩
      have e := hE1.2.1.2.1 (2 * j1 + 1) (by omega)
      try simp (disch := omega) only [s_Ii, s_Jj, s_Vn, forall_eq, L_m1, nI_add, nI_clamp, nI_leI, nI_ltI, nI_eq, vp_nI, pk_mul, pk_sub, Nat.zero_add, Nat.add_zero, wr_2, Classical.not_not, true_and, and_true, ne_eq, false_implies, true_implies, implies_true, not_true_eq_false, not_false_eq_true, ia_0, ia_1, za_1, ia_2, za_2, ia_3, za_3, ia_4, za_4, ia_5, za_5, ia_6, za_6, ia_7, za_7, ia_8, za_8, ia_9, za_9, ia_10, za_10, ia_11, za_11, ia_12, za_12, ia_13, za_13, ia_14, za_14, ia_15, za_15, ib_0, ib_1, zb_1, ic_0, ic_1, ic_2, ic_3, zc_1, zc_2, zc_3, id_0, id_1, id_2, id_3, zd_1, zd_2, zd_3, L_0, L_1, L_2, L_3, L_4, L_5, L_6, L_7, L_8, L_9, L_10, L_11, L_12, L_13, L_14, L_15, L_16, L_17, L_18, L_19, L_20, L_24, L_27, L_30, L_31, L_32, L_35, L_36, L_40, L_41, L_43, L_44, L_45, L_46, L_47, L_48, L_50, L_54, L_57, L_58, L_59, L_60, L_61, L_62, L_63, L_91, L_93, L_96, L_97, L_98, L_99, L_100, L_103, L_122, L_145, L_150, L_200, L_255, L_600, L_999, L_1000, L_2000, L_9999, L_10000, L_32767, L_12345, oI_s, oI_n, L_mn, if_true, if_false, ite_true, ite_false, Bool.false_eq_true, Nat.reduceEqDiff, Nat.reduceLeDiff, Nat.reduceLT, Nat.reduceAdd, Nat.reduceSub, Nat.reduceMul, Nat.le_refl, Nat.lt_irrefl, Nat.not_lt_zero, e]
      exact ⟨by omega, hQ _ hf1 h79⟩
  · skip
    refine agW_ok (nI (sm (dto S j1) (T 7 1))) hI (fun Q X hQ => ?_) (fun u hu Q X hQ => ?_)
    · apply eX11_creditor
      unfold vX11_creditor_0
      refine K_cred hE (fun z => absurd (z.symm.trans p0) (by decide)) (fun _ => ?_)
      refine K_isIn ?_
      rw [p1]
      refine K_req1 ?_
      simp (decide := true) only [show Int32.toInt (nI 2) = 2 from rfl, forall_const, true_implies, false_implies, and_true, true_and, or_self, or_false, false_or, implies_true, s_Ii]
      exact K_debtsTo hE (Or.inl rfl) hS hok.1.1 (by omega) (hQ w (fr.refl _ _))
    · have hCu := hC.sim hu
      have hE1 : RE T C n (q_wI u 79 0 0) := hCu.2.2.1.t
      have h79 : (q_wI u 79 0 0).1 79 0 = 0 := rd_s
      have hS1 : rR 104 S (q_wI u 79 0 0) := hCu.2.2.2.2.1.eq (fun j => rd_i (by omega))
      have hf1 : fr scr u (q_wI u 79 0 0) := scr_t
      apply eX12_creditor
      unfold vX12_creditor_0
      intro w1 hw1
      rw [← hw1] at hE1 h79 hS1 hf1
      refine R_cred1 hE1 h79 p0 ?_
      first | refine ⟨fun z => absurd z (by decide), fun _ => ?_⟩ | refine ⟨fun _ => ?_, fun z => absurd (show ¬ (1 : Int32) = 0 by decide) z⟩
      refine R_within ?_
      rw [p1]
      refine R_may1 h79 ?_
      first | refine ⟨fun z => absurd z (by decide), fun _ => ?_⟩ | refine ⟨fun _ => ?_, fun z => absurd (show ¬ (1 : Int32) = 0 by decide) z⟩
      have b := hok.1.1.1
      try simp (disch := omega) only [s_Ii, s_Jj, s_Vn, forall_eq, L_m1, nI_add, nI_clamp, nI_leI, nI_ltI, nI_eq, vp_nI, pk_mul, pk_sub, Nat.zero_add, Nat.add_zero, wr_2, Classical.not_not, true_and, and_true, ne_eq, false_implies, true_implies, implies_true, not_true_eq_false, not_false_eq_true, ia_0, ia_1, za_1, ia_2, za_2, ia_3, za_3, ia_4, za_4, ia_5, za_5, ia_6, za_6, ia_7, za_7, ia_8, za_8, ia_9, za_9, ia_10, za_10, ia_11, za_11, ia_12, za_12, ia_13, za_13, ia_14, za_14, ia_15, za_15, ib_0, ib_1, zb_1, ic_0, ic_1, ic_2, ic_3, zc_1, zc_2, zc_3, id_0, id_1, id_2, id_3, zd_1, zd_2, zd_3, L_0, L_1, L_2, L_3, L_4, L_5, L_6, L_7, L_8, L_9, L_10, L_11, L_12, L_13, L_14, L_15, L_16, L_17, L_18, L_19, L_20, L_24, L_27, L_30, L_31, L_32, L_35, L_36, L_40, L_41, L_43, L_44, L_45, L_46, L_47, L_48, L_50, L_54, L_57, L_58, L_59, L_60, L_61, L_62, L_63, L_91, L_93, L_96, L_97, L_98, L_99, L_100, L_103, L_122, L_145, L_150, L_200, L_255, L_600, L_999, L_1000, L_2000, L_9999, L_10000, L_32767, L_12345, oI_s, oI_n, L_mn, if_true, if_false, ite_true, ite_false, Bool.false_eq_true, Nat.reduceEqDiff, Nat.reduceLeDiff, Nat.reduceLT, Nat.reduceAdd, Nat.reduceSub, Nat.reduceMul, Nat.le_refl, Nat.lt_irrefl, Nat.not_lt_zero]
      have loop : ∀ i, i ≤ T 7 1 → s_Ex (998 + 1) 0 mX12_creditor 64 [some (.ref 79), some (.int (nI j1)), none, some (.int (nI (sm (dto S j1) i))), some (.int (nI i))] [] w1 (s_I Q) X := by
        refine n_down ?_ ?_
        · apply xX12_creditor_64
          unfold vX12_creditor_64
          try simp (disch := omega) only [s_Ii, s_Jj, s_Vn, forall_eq, L_m1, nI_add, nI_clamp, nI_leI, nI_ltI, nI_eq, vp_nI, pk_mul, pk_sub, Nat.zero_add, Nat.add_zero, wr_2, Classical.not_not, true_and, and_true, ne_eq, false_implies, true_implies, implies_true, not_true_eq_false, not_false_eq_true, ia_0, ia_1, za_1, ia_2, za_2, ia_3, za_3, ia_4, za_4, ia_5, za_5, ia_6, za_6, ia_7, za_7, ia_8, za_8, ia_9, za_9, ia_10, za_10, ia_11, za_11, ia_12, za_12, ia_13, za_13, ia_14, za_14, ia_15, za_15, ib_0, ib_1, zb_1, ic_0, ic_1, ic_2, ic_3, zc_1, zc_2, zc_3, id_0, id_1, id_2, id_3, zd_1, zd_2, zd_3, L_0, L_1, L_2, L_3, L_4, L_5, L_6, L_7, L_8, L_9, L_10, L_11, L_12, L_13, L_14, L_15, L_16, L_17, L_18, L_19, L_20, L_24, L_27, L_30, L_31, L_32, L_35, L_36, L_40, L_41, L_43, L_44, L_45, L_46, L_47, L_48, L_50, L_54, L_57, L_58, L_59, L_60, L_61, L_62, L_63, L_91, L_93, L_96, L_97, L_98, L_99, L_100, L_103, L_122, L_145, L_150, L_200, L_255, L_600, L_999, L_1000, L_2000, L_9999, L_10000, L_32767, L_12345, oI_s, oI_n, L_mn, if_true, if_false, ite_true, ite_false, Bool.false_eq_true, Nat.reduceEqDiff, Nat.reduceLeDiff, Nat.reduceLT, Nat.reduceAdd, Nat.reduceSub, Nat.reduceMul, Nat.le_refl, Nat.lt_irrefl, Nat.not_lt_zero, hE1.nd]
          exact hQ _ hf1 h79
        · intro i hi ih
          have b1 := b i hi
          have e1 : sm (dto S j1) (i + 1) = sm (dto S j1) i + dto S j1 i := rfl
          rw [e1] at ih
          apply xX12_creditor_64
          unfold vX12_creditor_64
          try simp (disch := omega) only [s_Ii, s_Jj, s_Vn, forall_eq, L_m1, nI_add, nI_clamp, nI_leI, nI_ltI, nI_eq, vp_nI, pk_mul, pk_sub, Nat.zero_add, Nat.add_zero, wr_2, Classical.not_not, true_and, and_true, ne_eq, false_implies, true_implies, implies_true, not_true_eq_false, not_false_eq_true, ia_0, ia_1, za_1, ia_2, za_2, ia_3, za_3, ia_4, za_4, ia_5, za_5, ia_6, za_6, ia_7, za_7, ia_8, za_8, ia_9, za_9, ia_10, za_10, ia_11, za_11, ia_12, za_12, ia_13, za_13, ia_14, za_14, ia_15, za_15, ib_0, ib_1, zb_1, ic_0, ic_1, ic_2, ic_3, zc_1, zc_2, zc_3, id_0, id_1, id_2, id_3, zd_1, zd_2, zd_3, L_0, L_1, L_2, L_3, L_4, L_5, L_6, L_7, L_8, L_9, L_10, L_11, L_12, L_13, L_14, L_15, L_16, L_17, L_18, L_19, L_20, L_24, L_27, L_30, L_31, L_32, L_35, L_36, L_40, L_41, L_43, L_44, L_45, L_46, L_47, L_48, L_50, L_54, L_57, L_58, L_59, L_60, L_61, L_62, L_63, L_91, L_93, L_96, L_97, L_98, L_99, L_100, L_103, L_122, L_145, L_150, L_200, L_255, L_600, L_999, L_1000, L_2000, L_9999, L_10000, L_32767, L_12345, oI_s, oI_n, L_mn, if_true, if_false, ite_true, ite_false, Bool.false_eq_true, Nat.reduceEqDiff, Nat.reduceLeDiff, Nat.reduceLT, Nat.reduceAdd, Nat.reduceSub, Nat.reduceMul, Nat.le_refl, Nat.lt_irrefl, Nat.not_lt_zero, hE1.nd, hS1 _]
          refine ⟨fun z => absurd z (by omega), fun _ => ⟨by omega, fun z => ?_, fun z => ⟨by omega, fun z2 => ?_, fun z2 => ?_⟩⟩⟩
          · rw [show dto S j1 i = 0 from if_neg (fun q => z q.1)] at ih; exact ih
          · rw [show dto S j1 i = 0 from if_neg (fun q => by omega)] at ih; exact ih
          · rw [show dto S j1 i = 1 from if_pos ⟨z, by omega⟩] at ih; exact ih
      exact loop 0 (Nat.zero_le _)
  · skip
    refine agW_ok (nI (sm (oto S j1) (T 7 1))) hI (fun Q X hQ => ?_) (fun u hu Q X hQ => ?_)
    · apply eX11_creditor
      unfold vX11_creditor_0
      refine K_cred hE (fun z => absurd (z.symm.trans p0) (by decide)) (fun _ => ?_)
      refine K_isIn ?_
      rw [p1]
      refine K_req1 ?_
      simp (decide := true) only [show Int32.toInt (nI 3) = 3 from rfl, forall_const, true_implies, false_implies, and_true, true_and, or_self, or_false, false_or, implies_true, s_Ii]
      exact K_owedTo hE (Or.inl rfl) hS hok.1.1 (by omega) (hQ w (fr.refl _ _))
    · have hCu := hC.sim hu
      have hE1 : RE T C n (q_wI u 79 0 0) := hCu.2.2.1.t
      have h79 : (q_wI u 79 0 0).1 79 0 = 0 := rd_s
      have hS1 : rR 104 S (q_wI u 79 0 0) := hCu.2.2.2.2.1.eq (fun j => rd_i (by omega))
      have hf1 : fr scr u (q_wI u 79 0 0) := scr_t
      apply eX12_creditor
      unfold vX12_creditor_0
      intro w1 hw1
      rw [← hw1] at hE1 h79 hS1 hf1
      refine R_cred1 hE1 h79 p0 ?_
      first | refine ⟨fun z => absurd z (by decide), fun _ => ?_⟩ | refine ⟨fun _ => ?_, fun z => absurd (show ¬ (1 : Int32) = 0 by decide) z⟩
      refine R_within ?_
      rw [p1]
      refine R_may1 h79 ?_
      first | refine ⟨fun z => absurd z (by decide), fun _ => ?_⟩ | refine ⟨fun _ => ?_, fun z => absurd (show ¬ (1 : Int32) = 0 by decide) z⟩
      rw [show (-1 : Int32) = oI none from rfl]
      try simp (disch := omega) only [s_Ii, s_Jj, s_Vn, forall_eq, L_m1, nI_add, nI_clamp, nI_leI, nI_ltI, nI_eq, vp_nI, pk_mul, pk_sub, Nat.zero_add, Nat.add_zero, wr_2, Classical.not_not, true_and, and_true, ne_eq, false_implies, true_implies, implies_true, not_true_eq_false, not_false_eq_true, ia_0, ia_1, za_1, ia_2, za_2, ia_3, za_3, ia_4, za_4, ia_5, za_5, ia_6, za_6, ia_7, za_7, ia_8, za_8, ia_9, za_9, ia_10, za_10, ia_11, za_11, ia_12, za_12, ia_13, za_13, ia_14, za_14, ia_15, za_15, ib_0, ib_1, zb_1, ic_0, ic_1, ic_2, ic_3, zc_1, zc_2, zc_3, id_0, id_1, id_2, id_3, zd_1, zd_2, zd_3, L_0, L_1, L_2, L_3, L_4, L_5, L_6, L_7, L_8, L_9, L_10, L_11, L_12, L_13, L_14, L_15, L_16, L_17, L_18, L_19, L_20, L_24, L_27, L_30, L_31, L_32, L_35, L_36, L_40, L_41, L_43, L_44, L_45, L_46, L_47, L_48, L_50, L_54, L_57, L_58, L_59, L_60, L_61, L_62, L_63, L_91, L_93, L_96, L_97, L_98, L_99, L_100, L_103, L_122, L_145, L_150, L_200, L_255, L_600, L_999, L_1000, L_2000, L_9999, L_10000, L_32767, L_12345, oI_s, oI_n, L_mn, if_true, if_false, ite_true, ite_false, Bool.false_eq_true, Nat.reduceEqDiff, Nat.reduceLeDiff, Nat.reduceLT, Nat.reduceAdd, Nat.reduceSub, Nat.reduceMul, Nat.le_refl, Nat.lt_irrefl, Nat.not_lt_zero]
      exact R_owedTo hE1 hS1 hok.1.1 (by omega) (hQ _ hf1 h79)
theorem ag_debt (w : q_Sm) (hI : Inv w) (x1 : Int32) (x2 : Int32) : ag_W Inv 998 2 er_B mX11_debt mX12_debt w [.int x1, .int x2] := by
  obtain ⟨T, β, C, n, S, B, m, hC, hPst, hImg, hTp, hCnt⟩ := id hI
  have hE := hC.2.1
  have ht := hE.2.2.1
  have hRE := hC.2.2.1
  have hnc := tb_nc ht
  have hnd := tb_nd ht
  have hnw := tb_nw ht
  have hS := hC.2.2.2.1
  have hSr := hC.2.2.2.2.1
  have hok := hC.2.2.2.2.2.1
  have hβ := hE.ord
  rcases rngc x1 (T 7 1) (by omega) with ⟨j1, g1, rfl⟩ | e0
  rotate_left
  · have e0 : r_in x1 0 (nI (T 7 1) - 1) = 0 := e0
    refine agW_no hI "java/util/NoSuchElementException" (nI 1) 13 0 (by omega) (Or.inl ⟨rfl, rfl⟩) (fun Q X hX => ?_) (fun u hu Q X hQ => ?_)
    · apply eX11_debt
      unfold vX11_debt_0
      exact K_debt hE (fun _ => hX) (fun z => absurd (z.symm.trans e0) (by decide))
    · have hE1 : RE T C n (q_wI u 79 0 0) := (hRE.n1 hu).t
      have h79 : (q_wI u 79 0 0).1 79 0 = 0 := rd_s
      apply eX12_debt
      unfold vX12_debt_0
      rintro _ rfl
      refine R_debt0 (k := 1) hE1 (by omega) (by omega) e0 ?_
      first | exact ⟨fun _ => ⟨_, rfl, hQ⟩, fun z => absurd rfl z⟩ | exact ⟨fun z => absurd rfl z, fun _ => ⟨_, rfl, hQ⟩⟩
  have p0 : r_in (nI j1) 0 (nI (T 7 1) - 1) = 1 := r_inc g1 (by omega)
  rcases rng x2 6 (by omega) with ⟨j2, g2, rfl⟩ | e1
  rotate_left
  · have e1 : r_in x2 0 6 = 0 := e1
    refine agW_no hI "java/lang/IllegalArgumentException" (nI 2) 14 1 (by omega) (Or.inr ⟨rfl, rfl⟩) (fun Q X hX => ?_) (fun u hu Q X hQ => ?_)
    · apply eX11_debt
      unfold vX11_debt_0
      refine K_debt hE (fun z => absurd (z.symm.trans p0) (by decide)) (fun _ => ?_)
      refine K_isIn ?_
      rw [e1]
      exact K_req0 hX
    · have hE1 : RE T C n (q_wI u 79 0 0) := (hRE.n1 hu).t
      have h79 : (q_wI u 79 0 0).1 79 0 = 0 := rd_s
      apply eX12_debt
      unfold vX12_debt_0
      rintro _ rfl
      refine R_debt1 hE1 h79 p0 ?_
      first | refine ⟨fun z => absurd z (by decide), fun _ => ?_⟩ | refine ⟨fun _ => ?_, fun z => absurd (show ¬ (1 : Int32) = 0 by decide) z⟩
      refine R_within ?_
      rw [e1]
      refine R_no (k := 2) (t := 1) (by omega) (by omega) (by omega) ?_
      first | exact ⟨fun _ => ⟨_, rfl, hQ⟩, fun z => absurd rfl z⟩ | exact ⟨fun z => absurd rfl z, fun _ => ⟨_, rfl, hQ⟩⟩
  have p1 : r_in (nI j2) 0 6 = 1 := r_in1 (a := 0) (b := 6) (by omega) (by omega) (by omega)
  have hoo := hE.1
  obtain rfl | rfl | rfl | rfl | rfl | rfl | rfl : j2 = 0 ∨ j2 = 1 ∨ j2 = 2 ∨ j2 = 3 ∨ j2 = 4 ∨ j2 = 5 ∨ j2 = 6 := by omega
  · skip
    refine agW_ok (nI (S (10 + j1))) hI (fun Q X hQ => ?_) (fun u hu Q X hQ => ?_)
    · apply eX11_debt
      unfold vX11_debt_0
      refine K_debt hE (fun z => absurd (z.symm.trans p0) (by decide)) (fun _ => ?_)
      refine K_isIn ?_
      rw [p1]
      refine K_req1 ?_
      simp (decide := true) only [show Int32.toInt (nI 0) = 0 from rfl, forall_const, true_implies, false_implies, and_true, true_and, or_self, or_false, false_or, implies_true, s_Ii]
      exact K_holder (Or.inl rfl) hS (by omega) (hQ w (fr.refl _ _))
    · have hCu := hC.sim hu
      have hE1 : RE T C n (q_wI u 79 0 0) := hCu.2.2.1.t
      have h79 : (q_wI u 79 0 0).1 79 0 = 0 := rd_s
      have hS1 : rR 104 S (q_wI u 79 0 0) := hCu.2.2.2.2.1.eq (fun j => rd_i (by omega))
      have hf1 : fr scr u (q_wI u 79 0 0) := scr_t
      apply eX12_debt
      unfold vX12_debt_0
      intro w1 hw1
      rw [← hw1] at hE1 h79 hS1 hf1
      refine R_debt1 hE1 h79 p0 ?_
      first | refine ⟨fun z => absurd z (by decide), fun _ => ?_⟩ | refine ⟨fun _ => ?_, fun z => absurd (show ¬ (1 : Int32) = 0 by decide) z⟩
      refine R_within ?_
      rw [p1]
      refine R_may1 h79 ?_
      first | refine ⟨fun z => absurd z (by decide), fun _ => ?_⟩ | refine ⟨fun _ => ?_, fun z => absurd (show ¬ (1 : Int32) = 0 by decide) z⟩
      try simp (disch := omega) only [s_Ii, s_Jj, s_Vn, forall_eq, L_m1, nI_add, nI_clamp, nI_leI, nI_ltI, nI_eq, vp_nI, pk_mul, pk_sub, Nat.zero_add, Nat.add_zero, wr_2, Classical.not_not, true_and, and_true, ne_eq, false_implies, true_implies, implies_true, not_true_eq_false, not_false_eq_true, ia_0, ia_1, za_1, ia_2, za_2, ia_3, za_3, ia_4, za_4, ia_5, za_5, ia_6, za_6, ia_7, za_7, ia_8, za_8, ia_9, za_9, ia_10, za_10, ia_11, za_11, ia_12, za_12, ia_13, za_13, ia_14, za_14, ia_15, za_15, ib_0, ib_1, zb_1, ic_0, ic_1, ic_2, ic_3, zc_1, zc_2, zc_3, id_0, id_1, id_2, id_3, zd_1, zd_2, zd_3, L_0, L_1, L_2, L_3, L_4, L_5, L_6, L_7, L_8, L_9, L_10, L_11, L_12, L_13, L_14, L_15, L_16, L_17, L_18, L_19, L_20, L_24, L_27, L_30, L_31, L_32, L_35, L_36, L_40, L_41, L_43, L_44, L_45, L_46, L_47, L_48, L_50, L_54, L_57, L_58, L_59, L_60, L_61, L_62, L_63, L_91, L_93, L_96, L_97, L_98, L_99, L_100, L_103, L_122, L_145, L_150, L_200, L_255, L_600, L_999, L_1000, L_2000, L_9999, L_10000, L_32767, L_12345, oI_s, oI_n, L_mn, if_true, if_false, ite_true, ite_false, Bool.false_eq_true, Nat.reduceEqDiff, Nat.reduceLeDiff, Nat.reduceLT, Nat.reduceAdd, Nat.reduceSub, Nat.reduceMul, Nat.le_refl, Nat.lt_irrefl, Nat.not_lt_zero, hS1 _]
      exact ⟨by omega, hQ _ hf1 h79⟩
  · skip
    refine agW_ok (nI (cl T j1)) hI (fun Q X hQ => ?_) (fun u hu Q X hQ => ?_)
    · apply eX11_debt
      unfold vX11_debt_0
      refine K_debt hE (fun z => absurd (z.symm.trans p0) (by decide)) (fun _ => ?_)
      refine K_isIn ?_
      rw [p1]
      refine K_req1 ?_
      simp (decide := true) only [show Int32.toInt (nI 1) = 1 from rfl, forall_const, true_implies, false_implies, and_true, true_and, or_self, or_false, false_or, implies_true, s_Ii]
      try simp (disch := omega) only [s_Ii, s_Jj, s_Vn, forall_eq, L_m1, nI_add, nI_clamp, nI_leI, nI_ltI, nI_eq, vp_nI, pk_mul, pk_sub, Nat.zero_add, Nat.add_zero, wr_2, Classical.not_not, true_and, and_true, ne_eq, false_implies, true_implies, implies_true, not_true_eq_false, not_false_eq_true, ia_0, ia_1, za_1, ia_2, za_2, ia_3, za_3, ia_4, za_4, ia_5, za_5, ia_6, za_6, ia_7, za_7, ia_8, za_8, ia_9, za_9, ia_10, za_10, ia_11, za_11, ia_12, za_12, ia_13, za_13, ia_14, za_14, ia_15, za_15, ib_0, ib_1, zb_1, ic_0, ic_1, ic_2, ic_3, zc_1, zc_2, zc_3, id_0, id_1, id_2, id_3, zd_1, zd_2, zd_3, L_0, L_1, L_2, L_3, L_4, L_5, L_6, L_7, L_8, L_9, L_10, L_11, L_12, L_13, L_14, L_15, L_16, L_17, L_18, L_19, L_20, L_24, L_27, L_30, L_31, L_32, L_35, L_36, L_40, L_41, L_43, L_44, L_45, L_46, L_47, L_48, L_50, L_54, L_57, L_58, L_59, L_60, L_61, L_62, L_63, L_91, L_93, L_96, L_97, L_98, L_99, L_100, L_103, L_122, L_145, L_150, L_200, L_255, L_600, L_999, L_1000, L_2000, L_9999, L_10000, L_32767, L_12345, oI_s, oI_n, L_mn, if_true, if_false, ite_true, ite_false, Bool.false_eq_true, Nat.reduceEqDiff, Nat.reduceLeDiff, Nat.reduceLT, Nat.reduceAdd, Nat.reduceSub, Nat.reduceMul, Nat.le_refl, Nat.lt_irrefl, Nat.not_lt_zero, hE.col g1]
      exact ⟨by omega, hQ w (fr.refl _ _)⟩
    · have hCu := hC.sim hu
      have hE1 : RE T C n (q_wI u 79 0 0) := hCu.2.2.1.t
      have h79 : (q_wI u 79 0 0).1 79 0 = 0 := rd_s
      have hS1 : rR 104 S (q_wI u 79 0 0) := hCu.2.2.2.2.1.eq (fun j => rd_i (by omega))
      have hf1 : fr scr u (q_wI u 79 0 0) := scr_t
      apply eX12_debt
      unfold vX12_debt_0
      intro w1 hw1
      rw [← hw1] at hE1 h79 hS1 hf1
      refine R_debt1 hE1 h79 p0 ?_
      first | refine ⟨fun z => absurd z (by decide), fun _ => ?_⟩ | refine ⟨fun _ => ?_, fun z => absurd (show ¬ (1 : Int32) = 0 by decide) z⟩
      refine R_within ?_
      rw [p1]
      refine R_may1 h79 ?_
      first | refine ⟨fun z => absurd z (by decide), fun _ => ?_⟩ | refine ⟨fun _ => ?_, fun z => absurd (show ¬ (1 : Int32) = 0 by decide) z⟩
      try simp (disch := omega) only [s_Ii, s_Jj, s_Vn, forall_eq, L_m1, nI_add, nI_clamp, nI_leI, nI_ltI, nI_eq, vp_nI, pk_mul, pk_sub, Nat.zero_add, Nat.add_zero, wr_2, Classical.not_not, true_and, and_true, ne_eq, false_implies, true_implies, implies_true, not_true_eq_false, not_false_eq_true, ia_0, ia_1, za_1, ia_2, za_2, ia_3, za_3, ia_4, za_4, ia_5, za_5, ia_6, za_6, ia_7, za_7, ia_8, za_8, ia_9, za_9, ia_10, za_10, ia_11, za_11, ia_12, za_12, ia_13, za_13, ia_14, za_14, ia_15, za_15, ib_0, ib_1, zb_1, ic_0, ic_1, ic_2, ic_3, zc_1, zc_2, zc_3, id_0, id_1, id_2, id_3, zd_1, zd_2, zd_3, L_0, L_1, L_2, L_3, L_4, L_5, L_6, L_7, L_8, L_9, L_10, L_11, L_12, L_13, L_14, L_15, L_16, L_17, L_18, L_19, L_20, L_24, L_27, L_30, L_31, L_32, L_35, L_36, L_40, L_41, L_43, L_44, L_45, L_46, L_47, L_48, L_50, L_54, L_57, L_58, L_59, L_60, L_61, L_62, L_63, L_91, L_93, L_96, L_97, L_98, L_99, L_100, L_103, L_122, L_145, L_150, L_200, L_255, L_600, L_999, L_1000, L_2000, L_9999, L_10000, L_32767, L_12345, oI_s, oI_n, L_mn, if_true, if_false, ite_true, ite_false, Bool.false_eq_true, Nat.reduceEqDiff, Nat.reduceLeDiff, Nat.reduceLT, Nat.reduceAdd, Nat.reduceSub, Nat.reduceMul, Nat.le_refl, Nat.lt_irrefl, Nat.not_lt_zero]
      exact R_colourOf hE1 g1 (hQ _ hf1 h79)
  · skip
    refine agW_ok (nI (S j1)) hI (fun Q X hQ => ?_) (fun u hu Q X hQ => ?_)
    · apply eX11_debt
      unfold vX11_debt_0
      refine K_debt hE (fun z => absurd (z.symm.trans p0) (by decide)) (fun _ => ?_)
      refine K_isIn ?_
      rw [p1]
      refine K_req1 ?_
      simp (decide := true) only [show Int32.toInt (nI 2) = 2 from rfl, forall_const, true_implies, false_implies, and_true, true_and, or_self, or_false, false_or, implies_true, s_Ii]
      exact K_owed (Or.inl rfl) hS (by omega) (hQ w (fr.refl _ _))
    · have hCu := hC.sim hu
      have hE1 : RE T C n (q_wI u 79 0 0) := hCu.2.2.1.t
      have h79 : (q_wI u 79 0 0).1 79 0 = 0 := rd_s
      have hS1 : rR 104 S (q_wI u 79 0 0) := hCu.2.2.2.2.1.eq (fun j => rd_i (by omega))
      have hf1 : fr scr u (q_wI u 79 0 0) := scr_t
      apply eX12_debt
      unfold vX12_debt_0
      intro w1 hw1
      rw [← hw1] at hE1 h79 hS1 hf1
      refine R_debt1 hE1 h79 p0 ?_
      first | refine ⟨fun z => absurd z (by decide), fun _ => ?_⟩ | refine ⟨fun _ => ?_, fun z => absurd (show ¬ (1 : Int32) = 0 by decide) z⟩
      refine R_within ?_
      rw [p1]
      refine R_may1 h79 ?_
      first | refine ⟨fun z => absurd z (by decide), fun _ => ?_⟩ | refine ⟨fun _ => ?_, fun z => absurd (show ¬ (1 : Int32) = 0 by decide) z⟩
      try simp (disch := omega) only [s_Ii, s_Jj, s_Vn, forall_eq, L_m1, nI_add, nI_clamp, nI_leI, nI_ltI, nI_eq, vp_nI, pk_mul, pk_sub, Nat.zero_add, Nat.add_zero, wr_2, Classical.not_not, true_and, and_true, ne_eq, false_implies, true_implies, implies_true, not_true_eq_false, not_false_eq_true, ia_0, ia_1, za_1, ia_2, za_2, ia_3, za_3, ia_4, za_4, ia_5, za_5, ia_6, za_6, ia_7, za_7, ia_8, za_8, ia_9, za_9, ia_10, za_10, ia_11, za_11, ia_12, za_12, ia_13, za_13, ia_14, za_14, ia_15, za_15, ib_0, ib_1, zb_1, ic_0, ic_1, ic_2, ic_3, zc_1, zc_2, zc_3, id_0, id_1, id_2, id_3, zd_1, zd_2, zd_3, L_0, L_1, L_2, L_3, L_4, L_5, L_6, L_7, L_8, L_9, L_10, L_11, L_12, L_13, L_14, L_15, L_16, L_17, L_18, L_19, L_20, L_24, L_27, L_30, L_31, L_32, L_35, L_36, L_40, L_41, L_43, L_44, L_45, L_46, L_47, L_48, L_50, L_54, L_57, L_58, L_59, L_60, L_61, L_62, L_63, L_91, L_93, L_96, L_97, L_98, L_99, L_100, L_103, L_122, L_145, L_150, L_200, L_255, L_600, L_999, L_1000, L_2000, L_9999, L_10000, L_32767, L_12345, oI_s, oI_n, L_mn, if_true, if_false, ite_true, ite_false, Bool.false_eq_true, Nat.reduceEqDiff, Nat.reduceLeDiff, Nat.reduceLT, Nat.reduceAdd, Nat.reduceSub, Nat.reduceMul, Nat.le_refl, Nat.lt_irrefl, Nat.not_lt_zero, hS1 _]
      exact ⟨by omega, hQ _ hf1 h79⟩
  · skip
    refine agW_ok (nI (T 1 (5 * j1 + 3))) hI (fun Q X hQ => ?_) (fun u hu Q X hQ => ?_)
    · apply eX11_debt
      unfold vX11_debt_0
      refine K_debt hE (fun z => absurd (z.symm.trans p0) (by decide)) (fun _ => ?_)
      refine K_isIn ?_
      rw [p1]
      refine K_req1 ?_
      simp (decide := true) only [show Int32.toInt (nI 3) = 3 from rfl, forall_const, true_implies, false_implies, and_true, true_and, or_self, or_false, false_or, implies_true, s_Ii]
      try simp (disch := omega) only [s_Ii, s_Jj, s_Vn, forall_eq, L_m1, nI_add, nI_clamp, nI_leI, nI_ltI, nI_eq, vp_nI, pk_mul, pk_sub, Nat.zero_add, Nat.add_zero, wr_2, Classical.not_not, true_and, and_true, ne_eq, false_implies, true_implies, implies_true, not_true_eq_false, not_false_eq_true, ia_0, ia_1, za_1, ia_2, za_2, ia_3, za_3, ia_4, za_4, ia_5, za_5, ia_6, za_6, ia_7, za_7, ia_8, za_8, ia_9, za_9, ia_10, za_10, ia_11, za_11, ia_12, za_12, ia_13, za_13, ia_14, za_14, ia_15, za_15, ib_0, ib_1, zb_1, ic_0, ic_1, ic_2, ic_3, zc_1, zc_2, zc_3, id_0, id_1, id_2, id_3, zd_1, zd_2, zd_3, L_0, L_1, L_2, L_3, L_4, L_5, L_6, L_7, L_8, L_9, L_10, L_11, L_12, L_13, L_14, L_15, L_16, L_17, L_18, L_19, L_20, L_24, L_27, L_30, L_31, L_32, L_35, L_36, L_40, L_41, L_43, L_44, L_45, L_46, L_47, L_48, L_50, L_54, L_57, L_58, L_59, L_60, L_61, L_62, L_63, L_91, L_93, L_96, L_97, L_98, L_99, L_100, L_103, L_122, L_145, L_150, L_200, L_255, L_600, L_999, L_1000, L_2000, L_9999, L_10000, L_32767, L_12345, oI_s, oI_n, L_mn, if_true, if_false, ite_true, ite_false, Bool.false_eq_true, Nat.reduceEqDiff, Nat.reduceLeDiff, Nat.reduceLT, Nat.reduceAdd, Nat.reduceSub, Nat.reduceMul, Nat.le_refl, Nat.lt_irrefl, Nat.not_lt_zero, hE.rate g1]
      exact ⟨by omega, hQ w (fr.refl _ _)⟩
    · have hCu := hC.sim hu
      have hE1 : RE T C n (q_wI u 79 0 0) := hCu.2.2.1.t
      have h79 : (q_wI u 79 0 0).1 79 0 = 0 := rd_s
      have hS1 : rR 104 S (q_wI u 79 0 0) := hCu.2.2.2.2.1.eq (fun j => rd_i (by omega))
      have hf1 : fr scr u (q_wI u 79 0 0) := scr_t
      apply eX12_debt
      unfold vX12_debt_0
      intro w1 hw1
      rw [← hw1] at hE1 h79 hS1 hf1
      refine R_debt1 hE1 h79 p0 ?_
      first | refine ⟨fun z => absurd z (by decide), fun _ => ?_⟩ | refine ⟨fun _ => ?_, fun z => absurd (show ¬ (1 : Int32) = 0 by decide) z⟩
      refine R_within ?_
      rw [p1]
      refine R_may1 h79 ?_
      first | refine ⟨fun z => absurd z (by decide), fun _ => ?_⟩ | refine ⟨fun _ => ?_, fun z => absurd (show ¬ (1 : Int32) = 0 by decide) z⟩
      have e := hE1.2.1.2.2.1 (5 * j1 + 3) (by omega)
      try simp (disch := omega) only [s_Ii, s_Jj, s_Vn, forall_eq, L_m1, nI_add, nI_clamp, nI_leI, nI_ltI, nI_eq, vp_nI, pk_mul, pk_sub, Nat.zero_add, Nat.add_zero, wr_2, Classical.not_not, true_and, and_true, ne_eq, false_implies, true_implies, implies_true, not_true_eq_false, not_false_eq_true, ia_0, ia_1, za_1, ia_2, za_2, ia_3, za_3, ia_4, za_4, ia_5, za_5, ia_6, za_6, ia_7, za_7, ia_8, za_8, ia_9, za_9, ia_10, za_10, ia_11, za_11, ia_12, za_12, ia_13, za_13, ia_14, za_14, ia_15, za_15, ib_0, ib_1, zb_1, ic_0, ic_1, ic_2, ic_3, zc_1, zc_2, zc_3, id_0, id_1, id_2, id_3, zd_1, zd_2, zd_3, L_0, L_1, L_2, L_3, L_4, L_5, L_6, L_7, L_8, L_9, L_10, L_11, L_12, L_13, L_14, L_15, L_16, L_17, L_18, L_19, L_20, L_24, L_27, L_30, L_31, L_32, L_35, L_36, L_40, L_41, L_43, L_44, L_45, L_46, L_47, L_48, L_50, L_54, L_57, L_58, L_59, L_60, L_61, L_62, L_63, L_91, L_93, L_96, L_97, L_98, L_99, L_100, L_103, L_122, L_145, L_150, L_200, L_255, L_600, L_999, L_1000, L_2000, L_9999, L_10000, L_32767, L_12345, oI_s, oI_n, L_mn, if_true, if_false, ite_true, ite_false, Bool.false_eq_true, Nat.reduceEqDiff, Nat.reduceLeDiff, Nat.reduceLT, Nat.reduceAdd, Nat.reduceSub, Nat.reduceMul, Nat.le_refl, Nat.lt_irrefl, Nat.not_lt_zero, e]
      exact ⟨by omega, hQ _ hf1 h79⟩
  · skip
    refine agW_ok (nI (tm T j1)) hI (fun Q X hQ => ?_) (fun u hu Q X hQ => ?_)
    · apply eX11_debt
      unfold vX11_debt_0
      refine K_debt hE (fun z => absurd (z.symm.trans p0) (by decide)) (fun _ => ?_)
      refine K_isIn ?_
      rw [p1]
      refine K_req1 ?_
      simp (decide := true) only [show Int32.toInt (nI 4) = 4 from rfl, forall_const, true_implies, false_implies, and_true, true_and, or_self, or_false, false_or, implies_true, s_Ii]
      try simp (disch := omega) only [s_Ii, s_Jj, s_Vn, forall_eq, L_m1, nI_add, nI_clamp, nI_leI, nI_ltI, nI_eq, vp_nI, pk_mul, pk_sub, Nat.zero_add, Nat.add_zero, wr_2, Classical.not_not, true_and, and_true, ne_eq, false_implies, true_implies, implies_true, not_true_eq_false, not_false_eq_true, ia_0, ia_1, za_1, ia_2, za_2, ia_3, za_3, ia_4, za_4, ia_5, za_5, ia_6, za_6, ia_7, za_7, ia_8, za_8, ia_9, za_9, ia_10, za_10, ia_11, za_11, ia_12, za_12, ia_13, za_13, ia_14, za_14, ia_15, za_15, ib_0, ib_1, zb_1, ic_0, ic_1, ic_2, ic_3, zc_1, zc_2, zc_3, id_0, id_1, id_2, id_3, zd_1, zd_2, zd_3, L_0, L_1, L_2, L_3, L_4, L_5, L_6, L_7, L_8, L_9, L_10, L_11, L_12, L_13, L_14, L_15, L_16, L_17, L_18, L_19, L_20, L_24, L_27, L_30, L_31, L_32, L_35, L_36, L_40, L_41, L_43, L_44, L_45, L_46, L_47, L_48, L_50, L_54, L_57, L_58, L_59, L_60, L_61, L_62, L_63, L_91, L_93, L_96, L_97, L_98, L_99, L_100, L_103, L_122, L_145, L_150, L_200, L_255, L_600, L_999, L_1000, L_2000, L_9999, L_10000, L_32767, L_12345, oI_s, oI_n, L_mn, if_true, if_false, ite_true, ite_false, Bool.false_eq_true, Nat.reduceEqDiff, Nat.reduceLeDiff, Nat.reduceLT, Nat.reduceAdd, Nat.reduceSub, Nat.reduceMul, Nat.le_refl, Nat.lt_irrefl, Nat.not_lt_zero, hE.term g1]
      exact ⟨by omega, hQ w (fr.refl _ _)⟩
    · have hCu := hC.sim hu
      have hE1 : RE T C n (q_wI u 79 0 0) := hCu.2.2.1.t
      have h79 : (q_wI u 79 0 0).1 79 0 = 0 := rd_s
      have hS1 : rR 104 S (q_wI u 79 0 0) := hCu.2.2.2.2.1.eq (fun j => rd_i (by omega))
      have hf1 : fr scr u (q_wI u 79 0 0) := scr_t
      apply eX12_debt
      unfold vX12_debt_0
      intro w1 hw1
      rw [← hw1] at hE1 h79 hS1 hf1
      refine R_debt1 hE1 h79 p0 ?_
      first | refine ⟨fun z => absurd z (by decide), fun _ => ?_⟩ | refine ⟨fun _ => ?_, fun z => absurd (show ¬ (1 : Int32) = 0 by decide) z⟩
      refine R_within ?_
      rw [p1]
      refine R_may1 h79 ?_
      first | refine ⟨fun z => absurd z (by decide), fun _ => ?_⟩ | refine ⟨fun _ => ?_, fun z => absurd (show ¬ (1 : Int32) = 0 by decide) z⟩
      have e := hE1.2.1.2.2.1 (5 * j1 + 4) (by omega)
      try simp (disch := omega) only [s_Ii, s_Jj, s_Vn, forall_eq, L_m1, nI_add, nI_clamp, nI_leI, nI_ltI, nI_eq, vp_nI, pk_mul, pk_sub, Nat.zero_add, Nat.add_zero, wr_2, Classical.not_not, true_and, and_true, ne_eq, false_implies, true_implies, implies_true, not_true_eq_false, not_false_eq_true, ia_0, ia_1, za_1, ia_2, za_2, ia_3, za_3, ia_4, za_4, ia_5, za_5, ia_6, za_6, ia_7, za_7, ia_8, za_8, ia_9, za_9, ia_10, za_10, ia_11, za_11, ia_12, za_12, ia_13, za_13, ia_14, za_14, ia_15, za_15, ib_0, ib_1, zb_1, ic_0, ic_1, ic_2, ic_3, zc_1, zc_2, zc_3, id_0, id_1, id_2, id_3, zd_1, zd_2, zd_3, L_0, L_1, L_2, L_3, L_4, L_5, L_6, L_7, L_8, L_9, L_10, L_11, L_12, L_13, L_14, L_15, L_16, L_17, L_18, L_19, L_20, L_24, L_27, L_30, L_31, L_32, L_35, L_36, L_40, L_41, L_43, L_44, L_45, L_46, L_47, L_48, L_50, L_54, L_57, L_58, L_59, L_60, L_61, L_62, L_63, L_91, L_93, L_96, L_97, L_98, L_99, L_100, L_103, L_122, L_145, L_150, L_200, L_255, L_600, L_999, L_1000, L_2000, L_9999, L_10000, L_32767, L_12345, oI_s, oI_n, L_mn, if_true, if_false, ite_true, ite_false, Bool.false_eq_true, Nat.reduceEqDiff, Nat.reduceLeDiff, Nat.reduceLT, Nat.reduceAdd, Nat.reduceSub, Nat.reduceMul, Nat.le_refl, Nat.lt_irrefl, Nat.not_lt_zero, e]
      exact ⟨by omega, hQ _ hf1 h79⟩
  · skip
    refine agW_ok (nI (S (20 + j1))) hI (fun Q X hQ => ?_) (fun u hu Q X hQ => ?_)
    · apply eX11_debt
      unfold vX11_debt_0
      refine K_debt hE (fun z => absurd (z.symm.trans p0) (by decide)) (fun _ => ?_)
      refine K_isIn ?_
      rw [p1]
      refine K_req1 ?_
      simp (decide := true) only [show Int32.toInt (nI 5) = 5 from rfl, forall_const, true_implies, false_implies, and_true, true_and, or_self, or_false, false_or, implies_true, s_Ii]
      exact K_defaulted (Or.inl rfl) hS (by omega) (hQ w (fr.refl _ _))
    · have hCu := hC.sim hu
      have hE1 : RE T C n (q_wI u 79 0 0) := hCu.2.2.1.t
      have h79 : (q_wI u 79 0 0).1 79 0 = 0 := rd_s
      have hS1 : rR 104 S (q_wI u 79 0 0) := hCu.2.2.2.2.1.eq (fun j => rd_i (by omega))
      have hf1 : fr scr u (q_wI u 79 0 0) := scr_t
      apply eX12_debt
      unfold vX12_debt_0
      intro w1 hw1
      rw [← hw1] at hE1 h79 hS1 hf1
      refine R_debt1 hE1 h79 p0 ?_
      first | refine ⟨fun z => absurd z (by decide), fun _ => ?_⟩ | refine ⟨fun _ => ?_, fun z => absurd (show ¬ (1 : Int32) = 0 by decide) z⟩
      refine R_within ?_
      rw [p1]
      refine R_may1 h79 ?_
      first | refine ⟨fun z => absurd z (by decide), fun _ => ?_⟩ | refine ⟨fun _ => ?_, fun z => absurd (show ¬ (1 : Int32) = 0 by decide) z⟩
      try simp (disch := omega) only [s_Ii, s_Jj, s_Vn, forall_eq, L_m1, nI_add, nI_clamp, nI_leI, nI_ltI, nI_eq, vp_nI, pk_mul, pk_sub, Nat.zero_add, Nat.add_zero, wr_2, Classical.not_not, true_and, and_true, ne_eq, false_implies, true_implies, implies_true, not_true_eq_false, not_false_eq_true, ia_0, ia_1, za_1, ia_2, za_2, ia_3, za_3, ia_4, za_4, ia_5, za_5, ia_6, za_6, ia_7, za_7, ia_8, za_8, ia_9, za_9, ia_10, za_10, ia_11, za_11, ia_12, za_12, ia_13, za_13, ia_14, za_14, ia_15, za_15, ib_0, ib_1, zb_1, ic_0, ic_1, ic_2, ic_3, zc_1, zc_2, zc_3, id_0, id_1, id_2, id_3, zd_1, zd_2, zd_3, L_0, L_1, L_2, L_3, L_4, L_5, L_6, L_7, L_8, L_9, L_10, L_11, L_12, L_13, L_14, L_15, L_16, L_17, L_18, L_19, L_20, L_24, L_27, L_30, L_31, L_32, L_35, L_36, L_40, L_41, L_43, L_44, L_45, L_46, L_47, L_48, L_50, L_54, L_57, L_58, L_59, L_60, L_61, L_62, L_63, L_91, L_93, L_96, L_97, L_98, L_99, L_100, L_103, L_122, L_145, L_150, L_200, L_255, L_600, L_999, L_1000, L_2000, L_9999, L_10000, L_32767, L_12345, oI_s, oI_n, L_mn, if_true, if_false, ite_true, ite_false, Bool.false_eq_true, Nat.reduceEqDiff, Nat.reduceLeDiff, Nat.reduceLT, Nat.reduceAdd, Nat.reduceSub, Nat.reduceMul, Nat.le_refl, Nat.lt_irrefl, Nat.not_lt_zero, hS1 _]
      exact ⟨by omega, hQ _ hf1 h79⟩
  · skip
    refine agW_ok (nI (S (30 + j1))) hI (fun Q X hQ => ?_) (fun u hu Q X hQ => ?_)
    · apply eX11_debt
      unfold vX11_debt_0
      refine K_debt hE (fun z => absurd (z.symm.trans p0) (by decide)) (fun _ => ?_)
      refine K_isIn ?_
      rw [p1]
      refine K_req1 ?_
      simp (decide := true) only [show Int32.toInt (nI 6) = 6 from rfl, forall_const, true_implies, false_implies, and_true, true_and, or_self, or_false, false_or, implies_true, s_Ii]
      exact K_paid (Or.inl rfl) hS (by omega) (hQ w (fr.refl _ _))
    · have hCu := hC.sim hu
      have hE1 : RE T C n (q_wI u 79 0 0) := hCu.2.2.1.t
      have h79 : (q_wI u 79 0 0).1 79 0 = 0 := rd_s
      have hS1 : rR 104 S (q_wI u 79 0 0) := hCu.2.2.2.2.1.eq (fun j => rd_i (by omega))
      have hf1 : fr scr u (q_wI u 79 0 0) := scr_t
      apply eX12_debt
      unfold vX12_debt_0
      intro w1 hw1
      rw [← hw1] at hE1 h79 hS1 hf1
      refine R_debt1 hE1 h79 p0 ?_
      first | refine ⟨fun z => absurd z (by decide), fun _ => ?_⟩ | refine ⟨fun _ => ?_, fun z => absurd (show ¬ (1 : Int32) = 0 by decide) z⟩
      refine R_within ?_
      rw [p1]
      refine R_may1 h79 ?_
      first | refine ⟨fun z => absurd z (by decide), fun _ => ?_⟩ | refine ⟨fun _ => ?_, fun z => absurd (show ¬ (1 : Int32) = 0 by decide) z⟩
      try simp (disch := omega) only [s_Ii, s_Jj, s_Vn, forall_eq, L_m1, nI_add, nI_clamp, nI_leI, nI_ltI, nI_eq, vp_nI, pk_mul, pk_sub, Nat.zero_add, Nat.add_zero, wr_2, Classical.not_not, true_and, and_true, ne_eq, false_implies, true_implies, implies_true, not_true_eq_false, not_false_eq_true, ia_0, ia_1, za_1, ia_2, za_2, ia_3, za_3, ia_4, za_4, ia_5, za_5, ia_6, za_6, ia_7, za_7, ia_8, za_8, ia_9, za_9, ia_10, za_10, ia_11, za_11, ia_12, za_12, ia_13, za_13, ia_14, za_14, ia_15, za_15, ib_0, ib_1, zb_1, ic_0, ic_1, ic_2, ic_3, zc_1, zc_2, zc_3, id_0, id_1, id_2, id_3, zd_1, zd_2, zd_3, L_0, L_1, L_2, L_3, L_4, L_5, L_6, L_7, L_8, L_9, L_10, L_11, L_12, L_13, L_14, L_15, L_16, L_17, L_18, L_19, L_20, L_24, L_27, L_30, L_31, L_32, L_35, L_36, L_40, L_41, L_43, L_44, L_45, L_46, L_47, L_48, L_50, L_54, L_57, L_58, L_59, L_60, L_61, L_62, L_63, L_91, L_93, L_96, L_97, L_98, L_99, L_100, L_103, L_122, L_145, L_150, L_200, L_255, L_600, L_999, L_1000, L_2000, L_9999, L_10000, L_32767, L_12345, oI_s, oI_n, L_mn, if_true, if_false, ite_true, ite_false, Bool.false_eq_true, Nat.reduceEqDiff, Nat.reduceLeDiff, Nat.reduceLT, Nat.reduceAdd, Nat.reduceSub, Nat.reduceMul, Nat.le_refl, Nat.lt_irrefl, Nat.not_lt_zero, hS1 _]
      exact ⟨by omega, hQ _ hf1 h79⟩
theorem KE.lamp {o l n : Nat} {T : Tb} {β C : Nat → Nat} {w : q_Sm} (h : KE o l T β C n w) {k : Nat} (hk : k < 4) : w.1 (o + 11) k = nI (T 4 k) := h.2.2.2.1.2.2.2.2.2.1 k hk
theorem RE.lamp {n : Nat} {T : Tb} {C : Nat → Nat} {w : q_Sm} (h : RE T C n w) {k : Nat} (hk : k < 4) : w.1 93 k = nI (T 4 k) := h.2.1.2.2.2.2.2.1 k hk
theorem ag_light (w : q_Sm) (hI : Inv w) (x1 : Int32) (x2 : Int32) : ag_W Inv 998 1 er_I mX11_light mX12_light w [.int x1, .int x2] := by
  obtain ⟨T, β, C, n, S, B, m, hC, hPst, hImg, hTp, hCnt⟩ := id hI
  have hE := hC.2.1
  have ht := hE.2.2.1
  have hRE := hC.2.2.1
  have hnc := tb_nc ht
  have hnd := tb_nd ht
  have hnw := tb_nw ht
  have hS := hC.2.2.2.1
  have hSr := hC.2.2.2.2.1
  have hok := hC.2.2.2.2.2.1
  have hβ := hE.ord
  rcases rng x1 3 (by omega) with ⟨j1, g1, rfl⟩ | e0
  rotate_left
  · have e0 : r_in x1 0 3 = 0 := e0
    refine agW_no hI "java/lang/IllegalArgumentException" (nI 1) 14 1 (by omega) (⟨rfl, rfl⟩) (fun Q X hX => ?_) (fun u hu Q X hQ => ?_)
    · apply eX11_light
      unfold vX11_light_0
      refine K_isColour ?_
      rw [e0]
      exact ⟨fun _ => K_req0 hX, fun z => absurd rfl z⟩
    · have hE1 : RE T C n (q_wI u 79 0 0) := (hRE.n1 hu).t
      have h79 : (q_wI u 79 0 0).1 79 0 = 0 := rd_s
      apply eX12_light
      unfold vX12_light_0
      rintro _ rfl
      refine R_isColour ?_
      rw [e0]
      refine ⟨fun _ => R_no (k := 1) (t := 1) (by omega) (by omega) (by omega) ?_, fun z => absurd rfl z⟩
      first | exact ⟨fun _ => ⟨_, rfl, hQ⟩, fun z => absurd rfl z⟩ | exact ⟨fun z => absurd rfl z, fun _ => ⟨_, rfl, hQ⟩⟩
  have p0 : r_in (nI j1) 0 3 = 1 := r_in1 (a := 0) (b := 3) (by omega) (by omega) (by omega)
  rcases rng x2 4 (by omega) with ⟨j2, g2, rfl⟩ | e1
  rotate_left
  · have e1 : r_in x2 0 4 = 0 := e1
    refine agW_no hI "java/lang/IllegalArgumentException" (nI 1) 14 1 (by omega) (⟨rfl, rfl⟩) (fun Q X hX => ?_) (fun u hu Q X hQ => ?_)
    · apply eX11_light
      unfold vX11_light_0
      refine K_isColour ?_
      rw [p0]
      refine ⟨fun z => absurd z (by decide), fun _ => ?_⟩
      refine K_isIn ?_
      rw [e1]
      exact ⟨fun _ => K_req0 hX, fun z => absurd rfl z⟩
    · have hE1 : RE T C n (q_wI u 79 0 0) := (hRE.n1 hu).t
      have h79 : (q_wI u 79 0 0).1 79 0 = 0 := rd_s
      apply eX12_light
      unfold vX12_light_0
      rintro _ rfl
      refine R_isColour ?_
      rw [p0]
      refine ⟨fun z => absurd z (by decide), fun _ => ?_⟩
      refine R_within ?_
      rw [e1]
      refine ⟨fun _ => R_no (k := 1) (t := 1) (by omega) (by omega) (by omega) ?_, fun z => absurd rfl z⟩
      first | exact ⟨fun _ => ⟨_, rfl, hQ⟩, fun z => absurd rfl z⟩ | exact ⟨fun z => absurd rfl z, fun _ => ⟨_, rfl, hQ⟩⟩
  have p1 : r_in (nI j2) 0 4 = 1 := r_in1 (a := 0) (b := 4) (by omega) (by omega) (by omega)
  have hoo := hE.1
  obtain rfl | rfl | rfl | rfl | rfl : j2 = 0 ∨ j2 = 1 ∨ j2 = 2 ∨ j2 = 3 ∨ j2 = 4 := by omega
  · skip
    refine agW_ok (nI (S (50 + j1))) hI (fun Q X hQ => ?_) (fun u hu Q X hQ => ?_)
    · apply eX11_light
      unfold vX11_light_0
      refine K_isColour ?_
      rw [p0]
      refine ⟨fun z => absurd z (by decide), fun _ => ?_⟩
      refine K_isIn ?_
      rw [p1]
      refine ⟨fun z => absurd z (by decide), fun _ => K_req1 ?_⟩
      simp (decide := true) only [show Int32.toInt (nI 0) = 0 from rfl, forall_const, true_implies, false_implies, and_true, true_and, or_self, or_false, false_or, implies_true, s_Ii]
      exact K_unspent (Or.inl rfl) hS (by omega) (hQ w (fr.refl _ _))
    · have hCu := hC.sim hu
      have hE1 : RE T C n (q_wI u 79 0 0) := hCu.2.2.1.t
      have h79 : (q_wI u 79 0 0).1 79 0 = 0 := rd_s
      have hS1 : rR 104 S (q_wI u 79 0 0) := hCu.2.2.2.2.1.eq (fun j => rd_i (by omega))
      have hf1 : fr scr u (q_wI u 79 0 0) := scr_t
      apply eX12_light
      unfold vX12_light_0
      intro w1 hw1
      rw [← hw1] at hE1 h79 hS1 hf1
      refine R_isColour ?_
      rw [p0]
      refine ⟨fun z => absurd z (by decide), fun _ => ?_⟩
      refine R_within ?_
      rw [p1]
      refine ⟨fun z => absurd z (by decide), fun _ => R_may1 h79 ?_⟩
      first | refine ⟨fun z => absurd z (by decide), fun _ => ?_⟩ | refine ⟨fun _ => ?_, fun z => absurd (show ¬ (1 : Int32) = 0 by decide) z⟩
      try simp (disch := omega) only [s_Ii, s_Jj, s_Vn, forall_eq, L_m1, nI_add, nI_clamp, nI_leI, nI_ltI, nI_eq, vp_nI, pk_mul, pk_sub, Nat.zero_add, Nat.add_zero, wr_2, Classical.not_not, true_and, and_true, ne_eq, false_implies, true_implies, implies_true, not_true_eq_false, not_false_eq_true, ia_0, ia_1, za_1, ia_2, za_2, ia_3, za_3, ia_4, za_4, ia_5, za_5, ia_6, za_6, ia_7, za_7, ia_8, za_8, ia_9, za_9, ia_10, za_10, ia_11, za_11, ia_12, za_12, ia_13, za_13, ia_14, za_14, ia_15, za_15, ib_0, ib_1, zb_1, ic_0, ic_1, ic_2, ic_3, zc_1, zc_2, zc_3, id_0, id_1, id_2, id_3, zd_1, zd_2, zd_3, L_0, L_1, L_2, L_3, L_4, L_5, L_6, L_7, L_8, L_9, L_10, L_11, L_12, L_13, L_14, L_15, L_16, L_17, L_18, L_19, L_20, L_24, L_27, L_30, L_31, L_32, L_35, L_36, L_40, L_41, L_43, L_44, L_45, L_46, L_47, L_48, L_50, L_54, L_57, L_58, L_59, L_60, L_61, L_62, L_63, L_91, L_93, L_96, L_97, L_98, L_99, L_100, L_103, L_122, L_145, L_150, L_200, L_255, L_600, L_999, L_1000, L_2000, L_9999, L_10000, L_32767, L_12345, oI_s, oI_n, L_mn, if_true, if_false, ite_true, ite_false, Bool.false_eq_true, Nat.reduceEqDiff, Nat.reduceLeDiff, Nat.reduceLT, Nat.reduceAdd, Nat.reduceSub, Nat.reduceMul, Nat.le_refl, Nat.lt_irrefl, Nat.not_lt_zero, hS1 _]
      exact ⟨by omega, hQ _ hf1 h79⟩
  · skip
    refine agW_ok (nI (T 4 j1) - nI (S (54 + j1))) hI (fun Q X hQ => ?_) (fun u hu Q X hQ => ?_)
    · apply eX11_light
      unfold vX11_light_0
      refine K_isColour ?_
      rw [p0]
      refine ⟨fun z => absurd z (by decide), fun _ => ?_⟩
      refine K_isIn ?_
      rw [p1]
      refine ⟨fun z => absurd z (by decide), fun _ => K_req1 ?_⟩
      simp (decide := true) only [show Int32.toInt (nI 1) = 1 from rfl, forall_const, true_implies, false_implies, and_true, true_and, or_self, or_false, false_or, implies_true, s_Ii]
      try simp (disch := omega) only [s_Ii, s_Jj, s_Vn, forall_eq, L_m1, nI_add, nI_clamp, nI_leI, nI_ltI, nI_eq, vp_nI, pk_mul, pk_sub, Nat.zero_add, Nat.add_zero, wr_2, Classical.not_not, true_and, and_true, ne_eq, false_implies, true_implies, implies_true, not_true_eq_false, not_false_eq_true, ia_0, ia_1, za_1, ia_2, za_2, ia_3, za_3, ia_4, za_4, ia_5, za_5, ia_6, za_6, ia_7, za_7, ia_8, za_8, ia_9, za_9, ia_10, za_10, ia_11, za_11, ia_12, za_12, ia_13, za_13, ia_14, za_14, ia_15, za_15, ib_0, ib_1, zb_1, ic_0, ic_1, ic_2, ic_3, zc_1, zc_2, zc_3, id_0, id_1, id_2, id_3, zd_1, zd_2, zd_3, L_0, L_1, L_2, L_3, L_4, L_5, L_6, L_7, L_8, L_9, L_10, L_11, L_12, L_13, L_14, L_15, L_16, L_17, L_18, L_19, L_20, L_24, L_27, L_30, L_31, L_32, L_35, L_36, L_40, L_41, L_43, L_44, L_45, L_46, L_47, L_48, L_50, L_54, L_57, L_58, L_59, L_60, L_61, L_62, L_63, L_91, L_93, L_96, L_97, L_98, L_99, L_100, L_103, L_122, L_145, L_150, L_200, L_255, L_600, L_999, L_1000, L_2000, L_9999, L_10000, L_32767, L_12345, oI_s, oI_n, L_mn, if_true, if_false, ite_true, ite_false, Bool.false_eq_true, Nat.reduceEqDiff, Nat.reduceLeDiff, Nat.reduceLT, Nat.reduceAdd, Nat.reduceSub, Nat.reduceMul, Nat.le_refl, Nat.lt_irrefl, Nat.not_lt_zero, hE.lamp]
      exact ⟨by omega, K_lent (Or.inl rfl) hS (by omega) (hQ w (fr.refl _ _))⟩
    · have hCu := hC.sim hu
      have hE1 : RE T C n (q_wI u 79 0 0) := hCu.2.2.1.t
      have h79 : (q_wI u 79 0 0).1 79 0 = 0 := rd_s
      have hS1 : rR 104 S (q_wI u 79 0 0) := hCu.2.2.2.2.1.eq (fun j => rd_i (by omega))
      have hf1 : fr scr u (q_wI u 79 0 0) := scr_t
      apply eX12_light
      unfold vX12_light_0
      intro w1 hw1
      rw [← hw1] at hE1 h79 hS1 hf1
      refine R_isColour ?_
      rw [p0]
      refine ⟨fun z => absurd z (by decide), fun _ => ?_⟩
      refine R_within ?_
      rw [p1]
      refine ⟨fun z => absurd z (by decide), fun _ => R_may1 h79 ?_⟩
      first | refine ⟨fun z => absurd z (by decide), fun _ => ?_⟩ | refine ⟨fun _ => ?_, fun z => absurd (show ¬ (1 : Int32) = 0 by decide) z⟩
      try simp (disch := omega) only [s_Ii, s_Jj, s_Vn, forall_eq, L_m1, nI_add, nI_clamp, nI_leI, nI_ltI, nI_eq, vp_nI, pk_mul, pk_sub, Nat.zero_add, Nat.add_zero, wr_2, Classical.not_not, true_and, and_true, ne_eq, false_implies, true_implies, implies_true, not_true_eq_false, not_false_eq_true, ia_0, ia_1, za_1, ia_2, za_2, ia_3, za_3, ia_4, za_4, ia_5, za_5, ia_6, za_6, ia_7, za_7, ia_8, za_8, ia_9, za_9, ia_10, za_10, ia_11, za_11, ia_12, za_12, ia_13, za_13, ia_14, za_14, ia_15, za_15, ib_0, ib_1, zb_1, ic_0, ic_1, ic_2, ic_3, zc_1, zc_2, zc_3, id_0, id_1, id_2, id_3, zd_1, zd_2, zd_3, L_0, L_1, L_2, L_3, L_4, L_5, L_6, L_7, L_8, L_9, L_10, L_11, L_12, L_13, L_14, L_15, L_16, L_17, L_18, L_19, L_20, L_24, L_27, L_30, L_31, L_32, L_35, L_36, L_40, L_41, L_43, L_44, L_45, L_46, L_47, L_48, L_50, L_54, L_57, L_58, L_59, L_60, L_61, L_62, L_63, L_91, L_93, L_96, L_97, L_98, L_99, L_100, L_103, L_122, L_145, L_150, L_200, L_255, L_600, L_999, L_1000, L_2000, L_9999, L_10000, L_32767, L_12345, oI_s, oI_n, L_mn, if_true, if_false, ite_true, ite_false, Bool.false_eq_true, Nat.reduceEqDiff, Nat.reduceLeDiff, Nat.reduceLT, Nat.reduceAdd, Nat.reduceSub, Nat.reduceMul, Nat.le_refl, Nat.lt_irrefl, Nat.not_lt_zero, hS1 _, hE1.lamp]
      exact ⟨by omega, by omega, hQ _ hf1 h79⟩
  · skip
    refine agW_ok (nI (S (54 + j1))) hI (fun Q X hQ => ?_) (fun u hu Q X hQ => ?_)
    · apply eX11_light
      unfold vX11_light_0
      refine K_isColour ?_
      rw [p0]
      refine ⟨fun z => absurd z (by decide), fun _ => ?_⟩
      refine K_isIn ?_
      rw [p1]
      refine ⟨fun z => absurd z (by decide), fun _ => K_req1 ?_⟩
      simp (decide := true) only [show Int32.toInt (nI 2) = 2 from rfl, forall_const, true_implies, false_implies, and_true, true_and, or_self, or_false, false_or, implies_true, s_Ii]
      exact K_lent (Or.inl rfl) hS (by omega) (hQ w (fr.refl _ _))
    · have hCu := hC.sim hu
      have hE1 : RE T C n (q_wI u 79 0 0) := hCu.2.2.1.t
      have h79 : (q_wI u 79 0 0).1 79 0 = 0 := rd_s
      have hS1 : rR 104 S (q_wI u 79 0 0) := hCu.2.2.2.2.1.eq (fun j => rd_i (by omega))
      have hf1 : fr scr u (q_wI u 79 0 0) := scr_t
      apply eX12_light
      unfold vX12_light_0
      intro w1 hw1
      rw [← hw1] at hE1 h79 hS1 hf1
      refine R_isColour ?_
      rw [p0]
      refine ⟨fun z => absurd z (by decide), fun _ => ?_⟩
      refine R_within ?_
      rw [p1]
      refine ⟨fun z => absurd z (by decide), fun _ => R_may1 h79 ?_⟩
      first | refine ⟨fun z => absurd z (by decide), fun _ => ?_⟩ | refine ⟨fun _ => ?_, fun z => absurd (show ¬ (1 : Int32) = 0 by decide) z⟩
      try simp (disch := omega) only [s_Ii, s_Jj, s_Vn, forall_eq, L_m1, nI_add, nI_clamp, nI_leI, nI_ltI, nI_eq, vp_nI, pk_mul, pk_sub, Nat.zero_add, Nat.add_zero, wr_2, Classical.not_not, true_and, and_true, ne_eq, false_implies, true_implies, implies_true, not_true_eq_false, not_false_eq_true, ia_0, ia_1, za_1, ia_2, za_2, ia_3, za_3, ia_4, za_4, ia_5, za_5, ia_6, za_6, ia_7, za_7, ia_8, za_8, ia_9, za_9, ia_10, za_10, ia_11, za_11, ia_12, za_12, ia_13, za_13, ia_14, za_14, ia_15, za_15, ib_0, ib_1, zb_1, ic_0, ic_1, ic_2, ic_3, zc_1, zc_2, zc_3, id_0, id_1, id_2, id_3, zd_1, zd_2, zd_3, L_0, L_1, L_2, L_3, L_4, L_5, L_6, L_7, L_8, L_9, L_10, L_11, L_12, L_13, L_14, L_15, L_16, L_17, L_18, L_19, L_20, L_24, L_27, L_30, L_31, L_32, L_35, L_36, L_40, L_41, L_43, L_44, L_45, L_46, L_47, L_48, L_50, L_54, L_57, L_58, L_59, L_60, L_61, L_62, L_63, L_91, L_93, L_96, L_97, L_98, L_99, L_100, L_103, L_122, L_145, L_150, L_200, L_255, L_600, L_999, L_1000, L_2000, L_9999, L_10000, L_32767, L_12345, oI_s, oI_n, L_mn, if_true, if_false, ite_true, ite_false, Bool.false_eq_true, Nat.reduceEqDiff, Nat.reduceLeDiff, Nat.reduceLT, Nat.reduceAdd, Nat.reduceSub, Nat.reduceMul, Nat.le_refl, Nat.lt_irrefl, Nat.not_lt_zero, hS1 _]
      exact ⟨by omega, hQ _ hf1 h79⟩
  · skip
    refine agW_ok (nI (sm (oof T S j1) (T 7 1))) hI (fun Q X hQ => ?_) (fun u hu Q X hQ => ?_)
    · apply eX11_light
      unfold vX11_light_0
      refine K_isColour ?_
      rw [p0]
      refine ⟨fun z => absurd z (by decide), fun _ => ?_⟩
      refine K_isIn ?_
      rw [p1]
      refine ⟨fun z => absurd z (by decide), fun _ => K_req1 ?_⟩
      simp (decide := true) only [show Int32.toInt (nI 3) = 3 from rfl, forall_const, true_implies, false_implies, and_true, true_and, or_self, or_false, false_or, implies_true, s_Ii]
      exact K_owedOf hE (Or.inl rfl) hS (by omega) (hQ w (fr.refl _ _))
    · have hCu := hC.sim hu
      have hE1 : RE T C n (q_wI u 79 0 0) := hCu.2.2.1.t
      have h79 : (q_wI u 79 0 0).1 79 0 = 0 := rd_s
      have hS1 : rR 104 S (q_wI u 79 0 0) := hCu.2.2.2.2.1.eq (fun j => rd_i (by omega))
      have hf1 : fr scr u (q_wI u 79 0 0) := scr_t
      apply eX12_light
      unfold vX12_light_0
      intro w1 hw1
      rw [← hw1] at hE1 h79 hS1 hf1
      refine R_isColour ?_
      rw [p0]
      refine ⟨fun z => absurd z (by decide), fun _ => ?_⟩
      refine R_within ?_
      rw [p1]
      refine ⟨fun z => absurd z (by decide), fun _ => R_may1 h79 ?_⟩
      first | refine ⟨fun z => absurd z (by decide), fun _ => ?_⟩ | refine ⟨fun _ => ?_, fun z => absurd (show ¬ (1 : Int32) = 0 by decide) z⟩
      try simp (disch := omega) only [s_Ii, s_Jj, s_Vn, forall_eq, L_m1, nI_add, nI_clamp, nI_leI, nI_ltI, nI_eq, vp_nI, pk_mul, pk_sub, Nat.zero_add, Nat.add_zero, wr_2, Classical.not_not, true_and, and_true, ne_eq, false_implies, true_implies, implies_true, not_true_eq_false, not_false_eq_true, ia_0, ia_1, za_1, ia_2, za_2, ia_3, za_3, ia_4, za_4, ia_5, za_5, ia_6, za_6, ia_7, za_7, ia_8, za_8, ia_9, za_9, ia_10, za_10, ia_11, za_11, ia_12, za_12, ia_13, za_13, ia_14, za_14, ia_15, za_15, ib_0, ib_1, zb_1, ic_0, ic_1, ic_2, ic_3, zc_1, zc_2, zc_3, id_0, id_1, id_2, id_3, zd_1, zd_2, zd_3, L_0, L_1, L_2, L_3, L_4, L_5, L_6, L_7, L_8, L_9, L_10, L_11, L_12, L_13, L_14, L_15, L_16, L_17, L_18, L_19, L_20, L_24, L_27, L_30, L_31, L_32, L_35, L_36, L_40, L_41, L_43, L_44, L_45, L_46, L_47, L_48, L_50, L_54, L_57, L_58, L_59, L_60, L_61, L_62, L_63, L_91, L_93, L_96, L_97, L_98, L_99, L_100, L_103, L_122, L_145, L_150, L_200, L_255, L_600, L_999, L_1000, L_2000, L_9999, L_10000, L_32767, L_12345, oI_s, oI_n, L_mn, if_true, if_false, ite_true, ite_false, Bool.false_eq_true, Nat.reduceEqDiff, Nat.reduceLeDiff, Nat.reduceLT, Nat.reduceAdd, Nat.reduceSub, Nat.reduceMul, Nat.le_refl, Nat.lt_irrefl, Nat.not_lt_zero]
      have loop : ∀ i, i ≤ T 7 1 → s_Ex (998 + 1) 0 mX12_light 112 [some (.ref 79), some (.int (nI j1)), none, some (.int (nI (sm (oof T S j1) i))), some (.int (nI i))] [] w1 (s_I Q) X := by
        refine n_down ?_ ?_
        · apply xX12_light_112
          unfold vX12_light_112
          try simp (disch := omega) only [s_Ii, s_Jj, s_Vn, forall_eq, L_m1, nI_add, nI_clamp, nI_leI, nI_ltI, nI_eq, vp_nI, pk_mul, pk_sub, Nat.zero_add, Nat.add_zero, wr_2, Classical.not_not, true_and, and_true, ne_eq, false_implies, true_implies, implies_true, not_true_eq_false, not_false_eq_true, ia_0, ia_1, za_1, ia_2, za_2, ia_3, za_3, ia_4, za_4, ia_5, za_5, ia_6, za_6, ia_7, za_7, ia_8, za_8, ia_9, za_9, ia_10, za_10, ia_11, za_11, ia_12, za_12, ia_13, za_13, ia_14, za_14, ia_15, za_15, ib_0, ib_1, zb_1, ic_0, ic_1, ic_2, ic_3, zc_1, zc_2, zc_3, id_0, id_1, id_2, id_3, zd_1, zd_2, zd_3, L_0, L_1, L_2, L_3, L_4, L_5, L_6, L_7, L_8, L_9, L_10, L_11, L_12, L_13, L_14, L_15, L_16, L_17, L_18, L_19, L_20, L_24, L_27, L_30, L_31, L_32, L_35, L_36, L_40, L_41, L_43, L_44, L_45, L_46, L_47, L_48, L_50, L_54, L_57, L_58, L_59, L_60, L_61, L_62, L_63, L_91, L_93, L_96, L_97, L_98, L_99, L_100, L_103, L_122, L_145, L_150, L_200, L_255, L_600, L_999, L_1000, L_2000, L_9999, L_10000, L_32767, L_12345, oI_s, oI_n, L_mn, if_true, if_false, ite_true, ite_false, Bool.false_eq_true, Nat.reduceEqDiff, Nat.reduceLeDiff, Nat.reduceLT, Nat.reduceAdd, Nat.reduceSub, Nat.reduceMul, Nat.le_refl, Nat.lt_irrefl, Nat.not_lt_zero, hE1.nd]
          exact hQ _ hf1 h79
        · intro i hi ih
          have b1 := tb_cl ht hi
          have e1 : sm (oof T S j1) (i + 1) = sm (oof T S j1) i + oof T S j1 i := rfl
          rw [e1] at ih
          apply xX12_light_112
          unfold vX12_light_112
          try simp (disch := omega) only [s_Ii, s_Jj, s_Vn, forall_eq, L_m1, nI_add, nI_clamp, nI_leI, nI_ltI, nI_eq, vp_nI, pk_mul, pk_sub, Nat.zero_add, Nat.add_zero, wr_2, Classical.not_not, true_and, and_true, ne_eq, false_implies, true_implies, implies_true, not_true_eq_false, not_false_eq_true, ia_0, ia_1, za_1, ia_2, za_2, ia_3, za_3, ia_4, za_4, ia_5, za_5, ia_6, za_6, ia_7, za_7, ia_8, za_8, ia_9, za_9, ia_10, za_10, ia_11, za_11, ia_12, za_12, ia_13, za_13, ia_14, za_14, ia_15, za_15, ib_0, ib_1, zb_1, ic_0, ic_1, ic_2, ic_3, zc_1, zc_2, zc_3, id_0, id_1, id_2, id_3, zd_1, zd_2, zd_3, L_0, L_1, L_2, L_3, L_4, L_5, L_6, L_7, L_8, L_9, L_10, L_11, L_12, L_13, L_14, L_15, L_16, L_17, L_18, L_19, L_20, L_24, L_27, L_30, L_31, L_32, L_35, L_36, L_40, L_41, L_43, L_44, L_45, L_46, L_47, L_48, L_50, L_54, L_57, L_58, L_59, L_60, L_61, L_62, L_63, L_91, L_93, L_96, L_97, L_98, L_99, L_100, L_103, L_122, L_145, L_150, L_200, L_255, L_600, L_999, L_1000, L_2000, L_9999, L_10000, L_32767, L_12345, oI_s, oI_n, L_mn, if_true, if_false, ite_true, ite_false, Bool.false_eq_true, Nat.reduceEqDiff, Nat.reduceLeDiff, Nat.reduceLT, Nat.reduceAdd, Nat.reduceSub, Nat.reduceMul, Nat.le_refl, Nat.lt_irrefl, Nat.not_lt_zero, hE1.nd]
          refine ⟨fun z => absurd z (by omega), fun _ => R_colourOf hE1 hi ?_⟩
          try simp (disch := omega) only [s_Ii, s_Jj, s_Vn, forall_eq, L_m1, nI_add, nI_clamp, nI_leI, nI_ltI, nI_eq, vp_nI, pk_mul, pk_sub, Nat.zero_add, Nat.add_zero, wr_2, Classical.not_not, true_and, and_true, ne_eq, false_implies, true_implies, implies_true, not_true_eq_false, not_false_eq_true, ia_0, ia_1, za_1, ia_2, za_2, ia_3, za_3, ia_4, za_4, ia_5, za_5, ia_6, za_6, ia_7, za_7, ia_8, za_8, ia_9, za_9, ia_10, za_10, ia_11, za_11, ia_12, za_12, ia_13, za_13, ia_14, za_14, ia_15, za_15, ib_0, ib_1, zb_1, ic_0, ic_1, ic_2, ic_3, zc_1, zc_2, zc_3, id_0, id_1, id_2, id_3, zd_1, zd_2, zd_3, L_0, L_1, L_2, L_3, L_4, L_5, L_6, L_7, L_8, L_9, L_10, L_11, L_12, L_13, L_14, L_15, L_16, L_17, L_18, L_19, L_20, L_24, L_27, L_30, L_31, L_32, L_35, L_36, L_40, L_41, L_43, L_44, L_45, L_46, L_47, L_48, L_50, L_54, L_57, L_58, L_59, L_60, L_61, L_62, L_63, L_91, L_93, L_96, L_97, L_98, L_99, L_100, L_103, L_122, L_145, L_150, L_200, L_255, L_600, L_999, L_1000, L_2000, L_9999, L_10000, L_32767, L_12345, oI_s, oI_n, L_mn, if_true, if_false, ite_true, ite_false, Bool.false_eq_true, Nat.reduceEqDiff, Nat.reduceLeDiff, Nat.reduceLT, Nat.reduceAdd, Nat.reduceSub, Nat.reduceMul, Nat.le_refl, Nat.lt_irrefl, Nat.not_lt_zero, hS1 _]
          refine ⟨fun z => ?_, fun z => ⟨by omega, ?_⟩⟩
          · rw [show oof T S j1 i = 0 from if_neg z] at ih; exact ih
          · rw [show oof T S j1 i = S i from if_pos z] at ih; exact ih
      exact loop 0 (Nat.zero_le _)
  · skip
    refine agW_ok (nI (S (58 + j1))) hI (fun Q X hQ => ?_) (fun u hu Q X hQ => ?_)
    · apply eX11_light
      unfold vX11_light_0
      refine K_isColour ?_
      rw [p0]
      refine ⟨fun z => absurd z (by decide), fun _ => ?_⟩
      refine K_isIn ?_
      rw [p1]
      refine ⟨fun z => absurd z (by decide), fun _ => K_req1 ?_⟩
      simp (decide := true) only [show Int32.toInt (nI 4) = 4 from rfl, forall_const, true_implies, false_implies, and_true, true_and, or_self, or_false, false_or, implies_true, s_Ii]
      refine K_paidOf hE (Or.inl rfl) hS (by omega) ?_
      rw [← hok.2 j1 (by omega)]
      exact hQ w (fr.refl _ _)
    · have hCu := hC.sim hu
      have hE1 : RE T C n (q_wI u 79 0 0) := hCu.2.2.1.t
      have h79 : (q_wI u 79 0 0).1 79 0 = 0 := rd_s
      have hS1 : rR 104 S (q_wI u 79 0 0) := hCu.2.2.2.2.1.eq (fun j => rd_i (by omega))
      have hf1 : fr scr u (q_wI u 79 0 0) := scr_t
      apply eX12_light
      unfold vX12_light_0
      intro w1 hw1
      rw [← hw1] at hE1 h79 hS1 hf1
      refine R_isColour ?_
      rw [p0]
      refine ⟨fun z => absurd z (by decide), fun _ => ?_⟩
      refine R_within ?_
      rw [p1]
      refine ⟨fun z => absurd z (by decide), fun _ => R_may1 h79 ?_⟩
      first | refine ⟨fun z => absurd z (by decide), fun _ => ?_⟩ | refine ⟨fun _ => ?_, fun z => absurd (show ¬ (1 : Int32) = 0 by decide) z⟩
      try simp (disch := omega) only [s_Ii, s_Jj, s_Vn, forall_eq, L_m1, nI_add, nI_clamp, nI_leI, nI_ltI, nI_eq, vp_nI, pk_mul, pk_sub, Nat.zero_add, Nat.add_zero, wr_2, Classical.not_not, true_and, and_true, ne_eq, false_implies, true_implies, implies_true, not_true_eq_false, not_false_eq_true, ia_0, ia_1, za_1, ia_2, za_2, ia_3, za_3, ia_4, za_4, ia_5, za_5, ia_6, za_6, ia_7, za_7, ia_8, za_8, ia_9, za_9, ia_10, za_10, ia_11, za_11, ia_12, za_12, ia_13, za_13, ia_14, za_14, ia_15, za_15, ib_0, ib_1, zb_1, ic_0, ic_1, ic_2, ic_3, zc_1, zc_2, zc_3, id_0, id_1, id_2, id_3, zd_1, zd_2, zd_3, L_0, L_1, L_2, L_3, L_4, L_5, L_6, L_7, L_8, L_9, L_10, L_11, L_12, L_13, L_14, L_15, L_16, L_17, L_18, L_19, L_20, L_24, L_27, L_30, L_31, L_32, L_35, L_36, L_40, L_41, L_43, L_44, L_45, L_46, L_47, L_48, L_50, L_54, L_57, L_58, L_59, L_60, L_61, L_62, L_63, L_91, L_93, L_96, L_97, L_98, L_99, L_100, L_103, L_122, L_145, L_150, L_200, L_255, L_600, L_999, L_1000, L_2000, L_9999, L_10000, L_32767, L_12345, oI_s, oI_n, L_mn, if_true, if_false, ite_true, ite_false, Bool.false_eq_true, Nat.reduceEqDiff, Nat.reduceLeDiff, Nat.reduceLT, Nat.reduceAdd, Nat.reduceSub, Nat.reduceMul, Nat.le_refl, Nat.lt_irrefl, Nat.not_lt_zero, hS1 _]
      exact ⟨by omega, hQ _ hf1 h79⟩
theorem ag_would (w : q_Sm) (hI : Inv w) (x1 : Int32) (x2 : Int32) (x3 : Int32) (x4 : Int32) : ag_W Inv 998 1 er_I mX11_would mX12_would w [.int x1, .int x2, .int x3, .int x4] := by
  obtain ⟨T, β, C, n, S, B, m, hC, hPst, hImg, hTp, hCnt⟩ := id hI
  have hE := hC.2.1
  have ht := hE.2.2.1
  have hRE := hC.2.2.1
  have hnc := tb_nc ht
  have hnd := tb_nd ht
  have hnw := tb_nw ht
  have hS := hC.2.2.2.1
  have hSr := hC.2.2.2.2.1
  have hok := hC.2.2.2.2.2.1
  have hβ := hE.ord
  rcases rng x1 9999 (by omega) with ⟨j1, g1, rfl⟩ | e0
  rotate_left
  · have e0 : r_in x1 0 9999 = 0 := e0
    refine agW_no hI "java/lang/IllegalArgumentException" (nI 1) 14 1 (by omega) (⟨rfl, rfl⟩) (fun Q X hX => ?_) (fun u hu Q X hQ => ?_)
    · apply eX11_would
      unfold vX11_would_0
      refine K_isIn ?_
      rw [e0]
      exact ⟨fun _ => K_req0 hX, fun z => absurd rfl z⟩
    · have hE1 : RE T C n (q_wI u 79 0 0) := (hRE.n1 hu).t
      have h79 : (q_wI u 79 0 0).1 79 0 = 0 := rd_s
      apply eX12_would
      unfold vX12_would_0
      rintro _ rfl
      refine R_within ?_
      rw [e0]
      refine ⟨fun _ => R_no (k := 1) (t := 1) (by omega) (by omega) (by omega) ?_, fun z => absurd rfl z⟩
      first | exact ⟨fun _ => ⟨_, rfl, hQ⟩, fun z => absurd rfl z⟩ | exact ⟨fun z => absurd rfl z, fun _ => ⟨_, rfl, hQ⟩⟩
  have p0 : r_in (nI j1) 0 9999 = 1 := r_in1 (a := 0) (b := 9999) (by omega) (by omega) (by omega)
  rcases rng x2 16 (by omega) with ⟨j2, g2, rfl⟩ | e1
  rotate_left
  · have e1 : r_in x2 0 16 = 0 := e1
    refine agW_no hI "java/lang/IllegalArgumentException" (nI 1) 14 1 (by omega) (⟨rfl, rfl⟩) (fun Q X hX => ?_) (fun u hu Q X hQ => ?_)
    · apply eX11_would
      unfold vX11_would_0
      refine K_isIn ?_
      rw [p0]
      refine ⟨fun z => absurd z (by decide), fun _ => ?_⟩
      refine K_isIn ?_
      rw [e1]
      exact ⟨fun _ => K_req0 hX, fun z => absurd rfl z⟩
    · have hE1 : RE T C n (q_wI u 79 0 0) := (hRE.n1 hu).t
      have h79 : (q_wI u 79 0 0).1 79 0 = 0 := rd_s
      apply eX12_would
      unfold vX12_would_0
      rintro _ rfl
      refine R_within ?_
      rw [p0]
      refine ⟨fun z => absurd z (by decide), fun _ => ?_⟩
      refine R_within ?_
      rw [e1]
      refine ⟨fun _ => R_no (k := 1) (t := 1) (by omega) (by omega) (by omega) ?_, fun z => absurd rfl z⟩
      first | exact ⟨fun _ => ⟨_, rfl, hQ⟩, fun z => absurd rfl z⟩ | exact ⟨fun z => absurd rfl z, fun _ => ⟨_, rfl, hQ⟩⟩
  have p1 : r_in (nI j2) 0 16 = 1 := r_in1 (a := 0) (b := 16) (by omega) (by omega) (by omega)
  rcases rng x3 200 (by omega) with ⟨j3, g3, rfl⟩ | e2
  rotate_left
  · have e2 : r_in x3 0 200 = 0 := e2
    refine agW_no hI "java/lang/IllegalArgumentException" (nI 1) 14 1 (by omega) (⟨rfl, rfl⟩) (fun Q X hX => ?_) (fun u hu Q X hQ => ?_)
    · apply eX11_would
      unfold vX11_would_0
      refine K_isIn ?_
      rw [p0]
      refine ⟨fun z => absurd z (by decide), fun _ => ?_⟩
      refine K_isIn ?_
      rw [p1]
      refine ⟨fun z => absurd z (by decide), fun _ => ?_⟩
      refine K_isIn ?_
      rw [e2]
      exact ⟨fun _ => K_req0 hX, fun z => absurd rfl z⟩
    · have hE1 : RE T C n (q_wI u 79 0 0) := (hRE.n1 hu).t
      have h79 : (q_wI u 79 0 0).1 79 0 = 0 := rd_s
      apply eX12_would
      unfold vX12_would_0
      rintro _ rfl
      refine R_within ?_
      rw [p0]
      refine ⟨fun z => absurd z (by decide), fun _ => ?_⟩
      refine R_within ?_
      rw [p1]
      refine ⟨fun z => absurd z (by decide), fun _ => ?_⟩
      refine R_within ?_
      rw [e2]
      refine ⟨fun _ => R_no (k := 1) (t := 1) (by omega) (by omega) (by omega) ?_, fun z => absurd rfl z⟩
      first | exact ⟨fun _ => ⟨_, rfl, hQ⟩, fun z => absurd rfl z⟩ | exact ⟨fun z => absurd rfl z, fun _ => ⟨_, rfl, hQ⟩⟩
  have p2 : r_in (nI j3) 0 200 = 1 := r_in1 (a := 0) (b := 200) (by omega) (by omega) (by omega)
  rcases rng x4 99 (by omega) with ⟨j4, g4, rfl⟩ | e3
  rotate_left
  · have e3 : r_in x4 0 99 = 0 := e3
    refine agW_no hI "java/lang/IllegalArgumentException" (nI 1) 14 1 (by omega) (⟨rfl, rfl⟩) (fun Q X hX => ?_) (fun u hu Q X hQ => ?_)
    · apply eX11_would
      unfold vX11_would_0
      refine K_isIn ?_
      rw [p0]
      refine ⟨fun z => absurd z (by decide), fun _ => ?_⟩
      refine K_isIn ?_
      rw [p1]
      refine ⟨fun z => absurd z (by decide), fun _ => ?_⟩
      refine K_isIn ?_
      rw [p2]
      refine ⟨fun z => absurd z (by decide), fun _ => ?_⟩
      refine K_isIn ?_
      rw [e3]
      exact ⟨fun _ => K_req0 hX, fun z => absurd rfl z⟩
    · have hE1 : RE T C n (q_wI u 79 0 0) := (hRE.n1 hu).t
      have h79 : (q_wI u 79 0 0).1 79 0 = 0 := rd_s
      apply eX12_would
      unfold vX12_would_0
      rintro _ rfl
      refine R_within ?_
      rw [p0]
      refine ⟨fun z => absurd z (by decide), fun _ => ?_⟩
      refine R_within ?_
      rw [p1]
      refine ⟨fun z => absurd z (by decide), fun _ => ?_⟩
      refine R_within ?_
      rw [p2]
      refine ⟨fun z => absurd z (by decide), fun _ => ?_⟩
      refine R_within ?_
      rw [e3]
      refine ⟨fun _ => R_no (k := 1) (t := 1) (by omega) (by omega) (by omega) ?_, fun z => absurd rfl z⟩
      first | exact ⟨fun _ => ⟨_, rfl, hQ⟩, fun z => absurd rfl z⟩ | exact ⟨fun z => absurd rfl z, fun _ => ⟨_, rfl, hQ⟩⟩
  have p3 : r_in (nI j4) 0 99 = 1 := r_in1 (a := 0) (b := 99) (by omega) (by omega) (by omega)
  refine agW_ok (nI (gv C n (f7 (nI j1) (nI j2) (nI j3) 0 (nI j4) 0 0))) hI (fun Q X hQ => ?_) (fun u hu Q X hQ => ?_)
  · apply eX11_would
    unfold vX11_would_0
    refine K_isIn ?_
    rw [p0]
    refine ⟨fun z => absurd z (by decide), fun _ => ?_⟩
    refine K_isIn ?_
    rw [p1]
    refine ⟨fun z => absurd z (by decide), fun _ => ?_⟩
    refine K_isIn ?_
    rw [p2]
    refine ⟨fun z => absurd z (by decide), fun _ => ?_⟩
    refine K_isIn ?_
    rw [p3]
    refine ⟨fun z => absurd z (by decide), fun _ => K_req1 ?_⟩
    refine ⟨ic_0 hE.2.1, k_growth hE (fun u hu => ⟨_, rfl, hQ u (hu.mono sc_L)⟩)⟩
  · have hCu := hC.sim hu
    have hE1 : RE T C n (q_wI u 79 0 0) := hCu.2.2.1.t
    have h79 : (q_wI u 79 0 0).1 79 0 = 0 := rd_s
    have hS1 : rR 104 S (q_wI u 79 0 0) := hCu.2.2.2.2.1.eq (fun j => rd_i (by omega))
    have hf1 : fr scr u (q_wI u 79 0 0) := scr_t
    apply eX12_would
    unfold vX12_would_0
    intro w1 hw1
    rw [← hw1] at hE1 h79 hS1 hf1
    refine R_within ?_
    rw [p0]
    refine ⟨fun z => absurd z (by decide), fun _ => ?_⟩
    refine R_within ?_
    rw [p1]
    refine ⟨fun z => absurd z (by decide), fun _ => ?_⟩
    refine R_within ?_
    rw [p2]
    refine ⟨fun z => absurd z (by decide), fun _ => ?_⟩
    refine R_within ?_
    rw [p3]
    refine ⟨fun z => absurd z (by decide), fun _ => R_may1 h79 ?_⟩
    first | refine ⟨fun z => absurd z (by decide), fun _ => ?_⟩ | refine ⟨fun _ => ?_, fun z => absurd (show ¬ (1 : Int32) = 0 by decide) z⟩
    have loop : ∀ i, i ≤ 7 → ∀ u2, fr aG w1 u2 → (∀ k, k < i → u2.1 101 k = 0) → s_Ex (998 + 1) 0 mX12_would 67 [some (.ref 79), some (.int (nI j1)), some (.int (nI j2)), some (.int (nI j3)), some (.int (nI j4)), some (.int (nI i))] [] u2 (s_I Q) X := by
      refine n_down ?_ ?_
      · intro u2 hu2 hz
        apply xX12_would_67
        unfold vX12_would_67
        refine ⟨fun _ => ?_, fun z => absurd (show nI 7 ≤ nI 7 from nI_le (by omega) (by omega)) z⟩
        rintro _ rfl _ rfl _ rfl _ rfl
        rw [show Int32.toNatClampNeg 0 = 0 from rfl, show Int32.toNatClampNeg 1 = 1 from rfl, show Int32.toNatClampNeg 2 = 2 from rfl, show Int32.toNatClampNeg 4 = 4 from rfl]
        refine r_growsNow (f := f7 (nI j1) (nI j2) (nI j3) 0 (nI j4) 0 0) (((((hE1.f hu2 aG_lo).w (by omega)).w (by omega)).w (by omega)).w (by omega)) (fun k hk => ?_) (fun u3 hu3 => ?_)
        · obtain rfl | rfl | rfl | rfl | rfl | rfl | rfl : k = 0 ∨ k = 1 ∨ k = 2 ∨ k = 3 ∨ k = 4 ∨ k = 5 ∨ k = 6 := by omega
          all_goals simp [rd_e, f7, hz]
        · have hu4 : fr aG w1 u3 := ((((hu2.put rfl).put rfl).put rfl).put rfl).trans (hu3.mono aV_aG)
          exact ⟨_, rfl, hQ u3 (hf1.trans ((hu4.mono aG_aS).mono sc_S)) ((hu4.2 _ _ rfl).trans h79)⟩
      · intro i hi ih u2 hu2 hz
        apply xX12_would_67
        unfold vX12_would_67
        refine ⟨fun z => absurd (show nI 7 ≤ nI i from z) (nI_ge hi (by omega)), fun _ => ⟨(vp_nI (by omega)).mpr hi, ?_⟩⟩
        rintro _ rfl
        rw [nI_1, nI_clamp (by omega)]
        refine ih _ (hu2.put rfl) (fun k hk => ?_)
        rw [rd_e, if_pos rfl]
        split
        · rfl
        · exact hz k (by omega)
    exact loop 0 (by omega) _ (fr.refl _ _) (fun k hk => absurd hk (Nat.not_lt_zero _))
theorem ag_owes (w : q_Sm) (hI : Inv w) (x1 : Int32) (x2 : Int32) : ag_W Inv 998 2 er_N mX11_owes mX12_owes w [.int x1, .int x2] := by
  obtain ⟨T, β, C, n, S, B, m, hC, hPst, hImg, hTp, hCnt⟩ := id hI
  have hE := hC.2.1
  have ht := hE.2.2.1
  have hRE := hC.2.2.1
  have hnc := tb_nc ht
  have hnd := tb_nd ht
  have hnw := tb_nw ht
  have hS := hC.2.2.2.1
  have hSr := hC.2.2.2.2.1
  have hok := hC.2.2.2.2.2.1
  have hβ := hE.ord
  rcases rngc x1 (T 7 0) (by omega) with ⟨j1, g1, rfl⟩ | e0
  rotate_left
  · have e0 : r_in x1 0 (nI (T 7 0) - 1) = 0 := e0
    refine agW_no hI "java/util/NoSuchElementException" (nI 1) 13 0 (by omega) (⟨rfl, rfl⟩) (fun Q X hX => ?_) (fun u hu Q X hQ => ?_)
    · apply eX11_owes
      unfold vX11_owes_0
      exact K_cred hE (fun _ => hX) (fun z => absurd (z.symm.trans e0) (by decide))
    · have hE1 : RE T C n (q_wI u 79 0 0) := (hRE.n1 hu).t
      have h79 : (q_wI u 79 0 0).1 79 0 = 0 := rd_s
      apply eX12_owes
      unfold vX12_owes_0
      rintro _ rfl
      refine R_cred0 (k := 1) hE1 (by omega) (by omega) e0 ?_
      first | exact ⟨fun _ => ⟨_, rfl, hQ⟩, fun z => absurd rfl z⟩ | exact ⟨fun z => absurd rfl z, fun _ => ⟨_, rfl, hQ⟩⟩
  have p0 : r_in (nI j1) 0 (nI (T 7 0) - 1) = 1 := r_inc g1 (by omega)
  rcases rngc x2 (T 7 0) (by omega) with ⟨j2, g2, rfl⟩ | e1
  rotate_left
  · have e1 : r_in x2 0 (nI (T 7 0) - 1) = 0 := e1
    refine agW_no hI "java/util/NoSuchElementException" (nI 1) 13 0 (by omega) (⟨rfl, rfl⟩) (fun Q X hX => ?_) (fun u hu Q X hQ => ?_)
    · apply eX11_owes
      unfold vX11_owes_0
      refine K_cred hE (fun z => absurd (z.symm.trans p0) (by decide)) (fun _ => ?_)
      exact K_cred hE (fun _ => hX) (fun z => absurd (z.symm.trans e1) (by decide))
    · have hE1 : RE T C n (q_wI u 79 0 0) := (hRE.n1 hu).t
      have h79 : (q_wI u 79 0 0).1 79 0 = 0 := rd_s
      apply eX12_owes
      unfold vX12_owes_0
      rintro _ rfl
      refine R_cred1 hE1 h79 p0 ?_
      first | refine ⟨fun z => absurd z (by decide), fun _ => ?_⟩ | refine ⟨fun _ => ?_, fun z => absurd (show ¬ (1 : Int32) = 0 by decide) z⟩
      refine R_cred0 (k := 1) hE1 (by omega) (by omega) e1 ?_
      first | exact ⟨fun _ => ⟨_, rfl, hQ⟩, fun z => absurd rfl z⟩ | exact ⟨fun z => absurd rfl z, fun _ => ⟨_, rfl, hQ⟩⟩
  have p1 : r_in (nI j2) 0 (nI (T 7 0) - 1) = 1 := r_inc g2 (by omega)
  refine agW_ok (nI (T 6 (6 * j1 + j2))) hI (fun Q X hQ => ?_) (fun u hu Q X hQ => ?_)
  · apply eX11_owes
    unfold vX11_owes_0
    refine K_cred hE (fun z => absurd (z.symm.trans p0) (by decide)) (fun _ => ?_)
    refine K_cred hE (fun z => absurd (z.symm.trans p1) (by decide)) (fun _ => ?_)
    exact ⟨ia_0 hE.1, K_loan hE (by omega) (by omega) ⟨_, rfl, hQ w (fr.refl _ _)⟩⟩
  · have hCu := hC.sim hu
    have hE1 : RE T C n (q_wI u 79 0 0) := hCu.2.2.1.t
    have h79 : (q_wI u 79 0 0).1 79 0 = 0 := rd_s
    have hS1 : rR 104 S (q_wI u 79 0 0) := hCu.2.2.2.2.1.eq (fun j => rd_i (by omega))
    have hf1 : fr scr u (q_wI u 79 0 0) := scr_t
    apply eX12_owes
    unfold vX12_owes_0
    intro w1 hw1
    rw [← hw1] at hE1 h79 hS1 hf1
    refine R_cred1 hE1 h79 p0 ?_
    first | refine ⟨fun z => absurd z (by decide), fun _ => ?_⟩ | refine ⟨fun _ => ?_, fun z => absurd (show ¬ (1 : Int32) = 0 by decide) z⟩
    refine R_cred1 hE1 h79 p1 ?_
    first | refine ⟨fun z => absurd z (by decide), fun _ => ?_⟩ | refine ⟨fun _ => ?_, fun z => absurd (show ¬ (1 : Int32) = 0 by decide) z⟩
    have e := hE1.loan (k := 6 * j1 + j2) (by omega)
    try simp (disch := omega) only [s_Ii, s_Jj, s_Vn, forall_eq, L_m1, nI_add, nI_clamp, nI_leI, nI_ltI, nI_eq, vp_nI, pk_mul, pk_sub, Nat.zero_add, Nat.add_zero, wr_2, Classical.not_not, true_and, and_true, ne_eq, false_implies, true_implies, implies_true, not_true_eq_false, not_false_eq_true, ia_0, ia_1, za_1, ia_2, za_2, ia_3, za_3, ia_4, za_4, ia_5, za_5, ia_6, za_6, ia_7, za_7, ia_8, za_8, ia_9, za_9, ia_10, za_10, ia_11, za_11, ia_12, za_12, ia_13, za_13, ia_14, za_14, ia_15, za_15, ib_0, ib_1, zb_1, ic_0, ic_1, ic_2, ic_3, zc_1, zc_2, zc_3, id_0, id_1, id_2, id_3, zd_1, zd_2, zd_3, L_0, L_1, L_2, L_3, L_4, L_5, L_6, L_7, L_8, L_9, L_10, L_11, L_12, L_13, L_14, L_15, L_16, L_17, L_18, L_19, L_20, L_24, L_27, L_30, L_31, L_32, L_35, L_36, L_40, L_41, L_43, L_44, L_45, L_46, L_47, L_48, L_50, L_54, L_57, L_58, L_59, L_60, L_61, L_62, L_63, L_91, L_93, L_96, L_97, L_98, L_99, L_100, L_103, L_122, L_145, L_150, L_200, L_255, L_600, L_999, L_1000, L_2000, L_9999, L_10000, L_32767, L_12345, oI_s, oI_n, L_mn, if_true, if_false, ite_true, ite_false, Bool.false_eq_true, Nat.reduceEqDiff, Nat.reduceLeDiff, Nat.reduceLT, Nat.reduceAdd, Nat.reduceSub, Nat.reduceMul, Nat.le_refl, Nat.lt_irrefl, Nat.not_lt_zero, e]
    exact ⟨by omega, hQ _ hf1 h79⟩
theorem ag_net (w : q_Sm) (hI : Inv w) (x1 : Int32) : ag_W Inv 998 1 er_N mX11_net mX12_net w [.int x1] := by
  obtain ⟨T, β, C, n, S, B, m, hC, hPst, hImg, hTp, hCnt⟩ := id hI
  have hE := hC.2.1
  have ht := hE.2.2.1
  have hRE := hC.2.2.1
  have hnc := tb_nc ht
  have hnd := tb_nd ht
  have hnw := tb_nw ht
  have hS := hC.2.2.2.1
  have hSr := hC.2.2.2.2.1
  have hok := hC.2.2.2.2.2.1
  have hβ := hE.ord
  rcases rngc x1 (T 7 0) (by omega) with ⟨j1, g1, rfl⟩ | e0
  rotate_left
  · have e0 : r_in x1 0 (nI (T 7 0) - 1) = 0 := e0
    refine agW_no hI "java/util/NoSuchElementException" (nI 1) 13 0 (by omega) (⟨rfl, rfl⟩) (fun Q X hX => ?_) (fun u hu Q X hQ => ?_)
    · apply eX11_net
      unfold vX11_net_0
      exact K_cred hE (fun _ => hX) (fun z => absurd (z.symm.trans e0) (by decide))
    · have hE1 : RE T C n (q_wI u 79 0 0) := (hRE.n1 hu).t
      have h79 : (q_wI u 79 0 0).1 79 0 = 0 := rd_s
      apply eX12_net
      unfold vX12_net_0
      rintro _ rfl
      refine R_cred0 (k := 1) hE1 (by omega) (by omega) e0 ?_
      first | exact ⟨fun _ => ⟨_, rfl, hQ⟩, fun z => absurd rfl z⟩ | exact ⟨fun z => absurd rfl z, fun _ => ⟨_, rfl, hQ⟩⟩
  have p0 : r_in (nI j1) 0 (nI (T 7 0) - 1) = 1 := r_inc g1 (by omega)
  refine agW_ok (ne1 T j1 (T 7 0)) hI (fun Q X hQ => ?_) (fun u hu Q X hQ => ?_)
  · apply eX11_net
    unfold vX11_net_0
    refine K_cred hE (fun z => absurd (z.symm.trans p0) (by decide)) (fun _ => ?_)
    exact ⟨ia_0 hE.1, K_netOf hE (by omega) ⟨_, rfl, hQ w (fr.refl _ _)⟩⟩
  · have hCu := hC.sim hu
    have hE1 : RE T C n (q_wI u 79 0 0) := hCu.2.2.1.t
    have h79 : (q_wI u 79 0 0).1 79 0 = 0 := rd_s
    have hS1 : rR 104 S (q_wI u 79 0 0) := hCu.2.2.2.2.1.eq (fun j => rd_i (by omega))
    have hf1 : fr scr u (q_wI u 79 0 0) := scr_t
    apply eX12_net
    unfold vX12_net_0
    intro w1 hw1
    rw [← hw1] at hE1 h79 hS1 hf1
    refine R_cred1 hE1 h79 p0 ?_
    first | refine ⟨fun z => absurd z (by decide), fun _ => ?_⟩ | refine ⟨fun _ => ?_, fun z => absurd (show ¬ (1 : Int32) = 0 by decide) z⟩
    exact R_netOf hE1 (by omega) ⟨_, rfl, hQ _ hf1 h79⟩
theorem ag_struck (w : q_Sm) (hI : Inv w) (x1 : Int32) : ag_W Inv 998 1 er_I mX11_struck mX12_struck w [.int x1] := by
  obtain ⟨T, β, C, n, S, B, m, hC, hPst, hImg, hTp, hCnt⟩ := id hI
  have hE := hC.2.1
  have ht := hE.2.2.1
  have hRE := hC.2.2.1
  have hnc := tb_nc ht
  have hnd := tb_nd ht
  have hnw := tb_nw ht
  have hS := hC.2.2.2.1
  have hSr := hC.2.2.2.2.1
  have hok := hC.2.2.2.2.2.1
  have hβ := hE.ord
  rcases rng x1 1 (by omega) with ⟨j1, g1, rfl⟩ | e0
  rotate_left
  · have e0 : r_in x1 0 1 = 0 := e0
    refine agW_no hI "java/lang/IllegalArgumentException" (nI 1) 14 1 (by omega) (⟨rfl, rfl⟩) (fun Q X hX => ?_) (fun u hu Q X hQ => ?_)
    · apply eX11_struck
      unfold vX11_struck_0
      refine K_isIn ?_
      rw [e0]
      exact K_req0 hX
    · have hE1 : RE T C n (q_wI u 79 0 0) := (hRE.n1 hu).t
      have h79 : (q_wI u 79 0 0).1 79 0 = 0 := rd_s
      apply eX12_struck
      unfold vX12_struck_0
      rintro _ rfl
      refine R_within ?_
      rw [e0]
      refine R_no (k := 1) (t := 1) (by omega) (by omega) (by omega) ?_
      first | exact ⟨fun _ => ⟨_, rfl, hQ⟩, fun z => absurd rfl z⟩ | exact ⟨fun z => absurd rfl z, fun _ => ⟨_, rfl, hQ⟩⟩
  have p0 : r_in (nI j1) 0 1 = 1 := r_in1 (a := 0) (b := 1) (by omega) (by omega) (by omega)
  refine agW_ok (if j1 = 0 then ls1 T (T 7 0) else nI (sm (T 6) 36) - ls1 T (T 7 0)) hI (fun Q X hQ => ?_) (fun u hu Q X hQ => ?_)
  · apply eX11_struck
    unfold vX11_struck_0
    refine K_isIn ?_
    rw [p0]
    refine K_req1 ?_
    refine ⟨ia_0 hE.1, K_leastSum hE ⟨fun z => ?_, fun z => ?_⟩⟩
    · rw [if_neg (fun q => z (by rw [q]; rfl))] at hQ
      exact ⟨ia_0 hE.1, K_loansInAll hE ⟨_, rfl, hQ w (fr.refl _ _)⟩⟩
    · have z2 : nI j1 = nI 0 := Decidable.not_not.mp z
      rw [if_pos ((nI_eq (by omega) (by omega)).mp z2)] at hQ
      exact ⟨_, rfl, hQ w (fr.refl _ _)⟩
  · have hCu := hC.sim hu
    have hE1 : RE T C n (q_wI u 79 0 0) := hCu.2.2.1.t
    have h79 : (q_wI u 79 0 0).1 79 0 = 0 := rd_s
    have hS1 : rR 104 S (q_wI u 79 0 0) := hCu.2.2.2.2.1.eq (fun j => rd_i (by omega))
    have hf1 : fr scr u (q_wI u 79 0 0) := scr_t
    apply eX12_struck
    unfold vX12_struck_0
    intro w1 hw1
    rw [← hw1] at hE1 h79 hS1 hf1
    refine R_within ?_
    rw [p0]
    refine R_may1 h79 ?_
    first | refine ⟨fun z => absurd z (by decide), fun _ => ?_⟩ | refine ⟨fun _ => ?_, fun z => absurd (show ¬ (1 : Int32) = 0 by decide) z⟩
    exact r_struckL hE1 (by omega) (hQ _ hf1 h79)
theorem ag_sees (w : q_Sm) (hI : Inv w) (x1 : Int32) : ag_Z Inv 998 1 er_N mX11_sees mX12_sees w [.int x1] := by
  obtain ⟨T, β, C, n, S, B, m, hC, hPst, hImg, hTp, hCnt⟩ := id hI
  have hE := hC.2.1
  have ht := hE.2.2.1
  have hRE := hC.2.2.1
  have hnc := tb_nc ht
  have hnd := tb_nd ht
  have hnw := tb_nw ht
  have hS := hC.2.2.2.1
  have hSr := hC.2.2.2.2.1
  have hok := hC.2.2.2.2.2.1
  have hβ := hE.ord
  rcases rngc x1 (T 7 0) (by omega) with ⟨j1, g1, rfl⟩ | e0
  rotate_left
  · have e0 : r_in x1 0 (nI (T 7 0) - 1) = 0 := e0
    refine agZ_no hI "java/util/NoSuchElementException" (nI 1) 13 0 (by omega) (⟨rfl, rfl⟩) (fun Q X hX => ?_) (fun u hu Q X hQ => ?_)
    · apply eX11_sees
      unfold vX11_sees_0
      exact K_cred hE (fun _ => hX) (fun z => absurd (z.symm.trans e0) (by decide))
    · have hE1 : RE T C n (q_wI u 79 0 0) := (hRE.n1 hu).t
      have h79 : (q_wI u 79 0 0).1 79 0 = 0 := rd_s
      apply eX12_sees
      unfold vX12_sees_0
      rintro _ rfl
      refine R_cred0 (k := 1) hE1 (by omega) (by omega) e0 ?_
      first | exact ⟨fun _ => ⟨_, rfl, hQ⟩, fun z => absurd rfl z⟩ | exact ⟨fun z => absurd rfl z, fun _ => ⟨_, rfl, hQ⟩⟩
  have p0 : r_in (nI j1) 0 (nI (T 7 0) - 1) = 1 := r_inc g1 (by omega)
  have hoo := hE.1
  have hb := ht.2.1 j1 g1
  have hcl := Classical.em (see T (T 0 (2 * j1)) (T 0 (2 * j1 + 1)))
  have hx : ∃ v : Int32, (see T (T 0 (2 * j1)) (T 0 (2 * j1 + 1)) → v = nI 1) ∧ (¬ see T (T 0 (2 * j1)) (T 0 (2 * j1 + 1)) → v = nI 0) := by
    rcases hcl with q | q
    · exact ⟨nI 1, fun _ => rfl, fun z => absurd q z⟩
    · exact ⟨nI 0, fun z => absurd z q, fun _ => rfl⟩
  obtain ⟨v, hv1, hv0⟩ := hx
  refine agZ_ok (v) hI (fun Q X hQ => ?_) (fun u hu Q X hQ => ?_)
  · apply eX11_sees
    unfold vX11_sees_0
    refine K_cred hE (fun z => absurd (z.symm.trans p0) (by decide)) (fun _ => ?_)
    have e : w.1 (w.2.2.1 + 2) j1 = nI (T 0 (2 * j1 + 1)) := hE.2.2.2.1.2.1.2 j1 g1
    try simp (disch := omega) only [s_Ii, s_Jj, s_Vn, forall_eq, L_m1, nI_add, nI_clamp, nI_leI, nI_ltI, nI_eq, vp_nI, pk_mul, pk_sub, Nat.zero_add, Nat.add_zero, wr_2, Classical.not_not, true_and, and_true, ne_eq, false_implies, true_implies, implies_true, not_true_eq_false, not_false_eq_true, ia_0, ia_1, za_1, ia_2, za_2, ia_3, za_3, ia_4, za_4, ia_5, za_5, ia_6, za_6, ia_7, za_7, ia_8, za_8, ia_9, za_9, ia_10, za_10, ia_11, za_11, ia_12, za_12, ia_13, za_13, ia_14, za_14, ia_15, za_15, ib_0, ib_1, zb_1, ic_0, ic_1, ic_2, ic_3, zc_1, zc_2, zc_3, id_0, id_1, id_2, id_3, zd_1, zd_2, zd_3, L_0, L_1, L_2, L_3, L_4, L_5, L_6, L_7, L_8, L_9, L_10, L_11, L_12, L_13, L_14, L_15, L_16, L_17, L_18, L_19, L_20, L_24, L_27, L_30, L_31, L_32, L_35, L_36, L_40, L_41, L_43, L_44, L_45, L_46, L_47, L_48, L_50, L_54, L_57, L_58, L_59, L_60, L_61, L_62, L_63, L_91, L_93, L_96, L_97, L_98, L_99, L_100, L_103, L_122, L_145, L_150, L_200, L_255, L_600, L_999, L_1000, L_2000, L_9999, L_10000, L_32767, L_12345, oI_s, oI_n, L_mn, if_true, if_false, ite_true, ite_false, Bool.false_eq_true, Nat.reduceEqDiff, Nat.reduceLeDiff, Nat.reduceLT, Nat.reduceAdd, Nat.reduceSub, Nat.reduceMul, Nat.le_refl, Nat.lt_irrefl, Nat.not_lt_zero, hE.cell g1, e]
    refine ⟨by omega, by omega, K_showsSea hE hb.1 (by omega) (fun q => ⟨rfl, ?_⟩) (fun q => ⟨rfl, ?_⟩)⟩
    · rw [hv1 q] at hQ
      exact hQ w (fr.refl _ _)
    · rw [hv0 q] at hQ
      exact hQ w (fr.refl _ _)
  · have hCu := hC.sim hu
    have hE1 : RE T C n (q_wI u 79 0 0) := hCu.2.2.1.t
    have h79 : (q_wI u 79 0 0).1 79 0 = 0 := rd_s
    have hS1 : rR 104 S (q_wI u 79 0 0) := hCu.2.2.2.2.1.eq (fun j => rd_i (by omega))
    have hf1 : fr scr u (q_wI u 79 0 0) := scr_t
    apply eX12_sees
    unfold vX12_sees_0
    intro w1 hw1
    rw [← hw1] at hE1 h79 hS1 hf1
    refine R_cred1 hE1 h79 p0 ?_
    first | refine ⟨fun z => absurd z (by decide), fun _ => ?_⟩ | refine ⟨fun _ => ?_, fun z => absurd (show ¬ (1 : Int32) = 0 by decide) z⟩
    have e := hE1.2.1.2.1 (2 * j1) (by omega)
    have e2 := hE1.2.1.2.1 (2 * j1 + 1) (by omega)
    try simp (disch := omega) only [s_Ii, s_Jj, s_Vn, forall_eq, L_m1, nI_add, nI_clamp, nI_leI, nI_ltI, nI_eq, vp_nI, pk_mul, pk_sub, Nat.zero_add, Nat.add_zero, wr_2, Classical.not_not, true_and, and_true, ne_eq, false_implies, true_implies, implies_true, not_true_eq_false, not_false_eq_true, ia_0, ia_1, za_1, ia_2, za_2, ia_3, za_3, ia_4, za_4, ia_5, za_5, ia_6, za_6, ia_7, za_7, ia_8, za_8, ia_9, za_9, ia_10, za_10, ia_11, za_11, ia_12, za_12, ia_13, za_13, ia_14, za_14, ia_15, za_15, ib_0, ib_1, zb_1, ic_0, ic_1, ic_2, ic_3, zc_1, zc_2, zc_3, id_0, id_1, id_2, id_3, zd_1, zd_2, zd_3, L_0, L_1, L_2, L_3, L_4, L_5, L_6, L_7, L_8, L_9, L_10, L_11, L_12, L_13, L_14, L_15, L_16, L_17, L_18, L_19, L_20, L_24, L_27, L_30, L_31, L_32, L_35, L_36, L_40, L_41, L_43, L_44, L_45, L_46, L_47, L_48, L_50, L_54, L_57, L_58, L_59, L_60, L_61, L_62, L_63, L_91, L_93, L_96, L_97, L_98, L_99, L_100, L_103, L_122, L_145, L_150, L_200, L_255, L_600, L_999, L_1000, L_2000, L_9999, L_10000, L_32767, L_12345, oI_s, oI_n, L_mn, if_true, if_false, ite_true, ite_false, Bool.false_eq_true, Nat.reduceEqDiff, Nat.reduceLeDiff, Nat.reduceLT, Nat.reduceAdd, Nat.reduceSub, Nat.reduceMul, Nat.le_refl, Nat.lt_irrefl, Nat.not_lt_zero, e, e2]
    refine ⟨by omega, by omega, R_seesFrom hE1 hb.1 (by omega) (fun q => ⟨rfl, ?_⟩) (fun q => ⟨rfl, ?_⟩)⟩
    · rw [hv1 q] at hQ
      exact hQ _ hf1 h79
    · rw [hv0 q] at hQ
      exact hQ _ hf1 h79
