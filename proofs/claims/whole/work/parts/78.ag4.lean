/-! agreements: counts, decades and spans -/
theorem nI_gt {a b : Nat} (h : ¬ nI a ≤ nI b) (hb : b < 2 ^ 31) : b ≤ a := by
  rcases Nat.lt_or_ge b a with z | z
  · omega
  · exact absurd (nI_le z hb) h
theorem ti_0 (x : Int32) : Int32.toInt x = 0 ↔ x = 0 := by
  constructor
  · intro h; exact Int32.toInt_inj.mp (h.trans (by decide))
  · rintro rfl; decide
theorem ti_1 (x : Int32) : Int32.toInt x = 1 ↔ x = 1 := by
  constructor
  · intro h; exact Int32.toInt_inj.mp (h.trans (by decide))
  · rintro rfl; decide
theorem ti_2 (x : Int32) : Int32.toInt x = 2 ↔ x = 2 := by
  constructor
  · intro h; exact Int32.toInt_inj.mp (h.trans (by decide))
  · rintro rfl; decide
theorem ag_status (w : q_Sm) (hI : Inv w) (x1 : Int32) : ag_D Inv 999 mX11_status mX12_status w [.int x1] := by
  obtain ⟨T, β, C, n, S, B, m, hC, hPst, hImg, hTp, hCnt⟩ := id hI
  have hE := hC.2.1
  have ht := hE.2.2.1
  have hRE := hC.2.2.1
  have hnc := tb_nc ht
  have hnd := tb_nd ht
  have hnw := tb_nw ht
  have hS := hC.2.2.2.1
  have hSr := hC.2.2.2.2.1
  have hok := hC.2.2.2.2.2.1
  have hβ := hE.ord
  refine agD_ok (if x1 = 0 then w.1 1 13 else if x1 = 1 then w.1 1 14 else -1) hI (fun Q X hQ => ?_) (fun u hu Q X hQ => ?_)
  · apply eX11_status
    unfold vX11_status_0
    simp only [ti_0, ti_1, s_Ii]
    refine ⟨fun z => ?_, fun z => ?_, fun z => ?_⟩
    · rw [if_pos z] at hQ; exact hQ w (fr.refl _ _)
    · rw [if_neg (by rw [z]; decide), if_pos z] at hQ; exact hQ w (fr.refl _ _)
    · rw [if_neg z.1, if_neg z.2] at hQ; exact hQ w (fr.refl _ _)
  · have hCu := hC.sim hu
    have hE1 : RE T C n (q_wI u 79 0 0) := hCu.2.2.1.t
    have h79 : (q_wI u 79 0 0).1 79 0 = 0 := rd_s
    have hS1 : rR 104 S (q_wI u 79 0 0) := hCu.2.2.2.2.1.eq (fun j => rd_i (by omega))
    have hf1 : fr scr u (q_wI u 79 0 0) := scr_t
    apply eX12_status
    unfold vX12_status_0
    intro w1 hw1
    rw [← hw1] at hE1 h79 hS1 hf1
    have e0 : w1.1 80 0 = w.1 1 13 := (hf1.2 _ _ rfl).trans ((hu.2 _ _ rfl).trans hCnt.1.symm)
    have e1 : w1.1 80 1 = w.1 1 14 := (hf1.2 _ _ rfl).trans ((hu.2 _ _ rfl).trans hCnt.2.1.symm)
    refine R_within ?_
    rcases rng x1 1 (by omega) with ⟨j, hj, rfl⟩ | e
    · have p : r_in (nI j) 0 1 = 1 := r_in1 (a := 0) (b := 1) (by omega) hj (by omega)
      rw [p]
      refine ⟨fun z => absurd z (by decide), fun _ => ⟨(vp_nI (by omega)).mpr (by omega), ?_⟩⟩
      obtain rfl | rfl : j = 0 ∨ j = 1 := by omega
      · rw [nI_clamp (by omega), e0]
        exact ⟨_, rfl, hQ _ hf1⟩
      · rw [nI_clamp (by omega), e1]
        exact ⟨_, rfl, hQ _ hf1⟩
    · have e : r_in x1 0 1 = 0 := e
      have n0 : ¬ x1 = 0 := fun q => by subst q; exact absurd e (by decide)
      have n1 : ¬ x1 = 1 := fun q => by subst q; exact absurd e (by decide)
      rw [if_neg n0, if_neg n1] at hQ
      rw [e]
      exact ⟨fun _ => ⟨_, rfl, hQ _ hf1⟩, fun z => absurd rfl z⟩
theorem ag_count (w : q_Sm) (hI : Inv w) (x1 : Int32) : ag_D Inv 999 mX11_count mX12_count w [.int x1] := by
  obtain ⟨T, β, C, n, S, B, m, hC, hPst, hImg, hTp, hCnt⟩ := id hI
  have hE := hC.2.1
  have ht := hE.2.2.1
  have hRE := hC.2.2.1
  have hnc := tb_nc ht
  have hnd := tb_nd ht
  have hnw := tb_nw ht
  have hS := hC.2.2.2.1
  have hSr := hC.2.2.2.2.1
  have hok := hC.2.2.2.2.2.1
  have hβ := hE.ord
  obtain ⟨ni, hni, i1, i2, -⟩ := id hImg
  obtain ⟨nt, Y, hnt, t1, t2, -⟩ := id hTp
  obtain ⟨np, P, hnp, p1, p2, -⟩ := id hPst
  refine agD_ok (if x1 = 0 then w.1 1 11 else if x1 = 1 then w.1 2 1 else if x1 = 2 then w.1 58 1 else -1) hI (fun Q X hQ => ?_) (fun u hu Q X hQ => ?_)
  · apply eX11_count
    unfold vX11_count_0
    simp only [ti_0, ti_1, ti_2, s_Ii]
    refine ⟨fun z => ?_, fun z => ?_, fun z => ?_, fun z => ?_⟩
    · have n0 : ¬ x1 = 0 := fun q => by subst q; exact absurd z (by decide)
      have n1 : ¬ x1 = 1 := fun q => by subst q; exact absurd z (by decide)
      have n2 : ¬ x1 = 2 := fun q => by subst q; exact absurd z (by decide)
      rw [if_neg n0, if_neg n1, if_neg n2] at hQ; exact hQ w (fr.refl _ _)
    · rw [if_pos z] at hQ; exact hQ w (fr.refl _ _)
    · rw [if_neg (by rw [z]; decide), if_pos z] at hQ
      apply eX10_size
      unfold vX10_size_0
      exact ⟨_, rfl, hQ w (fr.refl _ _)⟩
    · rw [if_neg (by rw [z]; decide), if_neg (by rw [z]; decide), if_pos z] at hQ
      apply eX8_size
      unfold vX8_size_0
      exact ⟨q_id_of rfl, _, rfl, hQ w (fr.refl _ _)⟩
  · have hCu := hC.sim hu
    have hE1 : RE T C n (q_wI u 79 0 0) := hCu.2.2.1.t
    have h79 : (q_wI u 79 0 0).1 79 0 = 0 := rd_s
    have hS1 : rR 104 S (q_wI u 79 0 0) := hCu.2.2.2.2.1.eq (fun j => rd_i (by omega))
    have hf1 : fr scr u (q_wI u 79 0 0) := scr_t
    apply eX12_count
    unfold vX12_count_0
    intro w1 hw1
    rw [← hw1] at hE1 h79 hS1 hf1
    have e0 : w1.1 79 66 = w.1 1 11 := (hf1.2 _ _ rfl).trans ((hu.2 _ _ rfl).trans (i2.trans i1.symm))
    have e1 : w1.1 79 2 = w.1 2 1 := (hf1.2 _ _ rfl).trans ((hu.2 _ _ rfl).trans (t2.trans t1.symm))
    have e2 : w1.1 79 45 = w.1 58 1 := (hf1.2 _ _ rfl).trans ((hu.2 _ _ rfl).trans (p2.trans p1.symm))
    rw [e0, e1, e2]
    refine ⟨fun z => ⟨fun z1 => ⟨fun z2 => ?_, fun z2 => ?_⟩, fun z1 => ?_⟩, fun z => ?_⟩
    · rw [if_neg z, if_neg z1, if_neg z2] at hQ; exact ⟨_, rfl, hQ _ hf1⟩
    · rw [if_neg z, if_neg z1, if_pos (Decidable.not_not.mp z2)] at hQ; exact ⟨_, rfl, hQ _ hf1⟩
    · rw [if_neg z, if_pos (Decidable.not_not.mp z1)] at hQ; exact ⟨_, rfl, hQ _ hf1⟩
    · rw [if_pos (Decidable.not_not.mp z)] at hQ; exact ⟨_, rfl, hQ _ hf1⟩
theorem ag_decade (w : q_Sm) (hI : Inv w) (x1 : Int32) (x2 : Int32) (x3 : Int32) : ag_W Inv 998 1 er_I mX11_decade mX12_decade w [.int x1, .int x2, .int x3] := by
  obtain ⟨T, β, C, n, S, B, m, hC, hPst, hImg, hTp, hCnt⟩ := id hI
  have hE := hC.2.1
  have ht := hE.2.2.1
  have hRE := hC.2.2.1
  have hnc := tb_nc ht
  have hnd := tb_nd ht
  have hnw := tb_nw ht
  have hS := hC.2.2.2.1
  have hSr := hC.2.2.2.2.1
  have hok := hC.2.2.2.2.2.1
  have hβ := hE.ord
  rcases rng1 x2 60 (by omega) with ⟨j2, g2a, g2, rfl⟩ | e0
  rotate_left
  · have e0 : r_in x2 1 60 = 0 := e0
    refine agW_no hI "java/lang/IllegalArgumentException" (nI 1) 14 1 (by omega) (⟨rfl, rfl⟩) (fun Q X hX => ?_) (fun u hu Q X hQ => ?_)
    · apply eX11_decade
      unfold vX11_decade_0
      refine K_isIn ?_
      rw [e0]
      exact ⟨fun _ => K_req0 hX, fun z => absurd rfl z⟩
    · have hE1 : RE T C n (q_wI u 79 0 0) := (hRE.n1 hu).t
      have h79 : (q_wI u 79 0 0).1 79 0 = 0 := rd_s
      apply eX12_decade
      unfold vX12_decade_0
      rintro _ rfl
      refine R_within ?_
      rw [e0]
      refine ⟨fun _ => R_no (k := 1) (t := 1) (by omega) (by omega) (by omega) ?_, fun z => absurd rfl z⟩
      first | exact ⟨fun _ => ⟨_, rfl, hQ⟩, fun z => absurd rfl z⟩ | exact ⟨fun z => absurd rfl z, fun _ => ⟨_, rfl, hQ⟩⟩
  have p0 : r_in (nI j2) 1 60 = 1 := r_in1 (a := 1) (b := 60) (by omega) (by omega) (by omega)
  rcases rng x3 3 (by omega) with ⟨j3, g3, rfl⟩ | e1
  rotate_left
  · have e1 : r_in x3 0 3 = 0 := e1
    refine agW_no hI "java/lang/IllegalArgumentException" (nI 1) 14 1 (by omega) (⟨rfl, rfl⟩) (fun Q X hX => ?_) (fun u hu Q X hQ => ?_)
    · apply eX11_decade
      unfold vX11_decade_0
      refine K_isIn ?_
      rw [p0]
      refine ⟨fun z => absurd z (by decide), fun _ => ?_⟩
      refine K_isIn ?_
      rw [e1]
      exact ⟨fun _ => K_req0 hX, fun z => absurd rfl z⟩
    · have hE1 : RE T C n (q_wI u 79 0 0) := (hRE.n1 hu).t
      have h79 : (q_wI u 79 0 0).1 79 0 = 0 := rd_s
      apply eX12_decade
      unfold vX12_decade_0
      rintro _ rfl
      refine R_within ?_
      rw [p0]
      refine ⟨fun z => absurd z (by decide), fun _ => ?_⟩
      refine R_within ?_
      rw [e1]
      refine ⟨fun _ => R_no (k := 1) (t := 1) (by omega) (by omega) (by omega) ?_, fun z => absurd rfl z⟩
      first | exact ⟨fun _ => ⟨_, rfl, hQ⟩, fun z => absurd rfl z⟩ | exact ⟨fun z => absurd rfl z, fun _ => ⟨_, rfl, hQ⟩⟩
  have p1 : r_in (nI j3) 0 3 = 1 := r_in1 (a := 0) (b := 3) (by omega) (by omega) (by omega)
  obtain rfl | rfl | rfl | rfl : j3 = 0 ∨ j3 = 1 ∨ j3 = 2 ∨ j3 = 3 := by omega
  · skip
    refine agW_ok (nI (sm (dN T β C n (S, x1, 0, 0) j2).1 (T 7 1))) hI (fun Q X hQ => ?_) (fun u hu Q X hQ => ?_)
    · apply eX11_decade
      unfold vX11_decade_0
      refine K_isIn ?_
      rw [p0]
      refine ⟨fun z => absurd z (by decide), fun _ => ?_⟩
      refine K_isIn ?_
      rw [p1]
      refine ⟨fun z => absurd z (by decide), fun _ => K_req1 ?_⟩
      refine K_liveDecade (m := j2) hE hS hok.1 (by omega) (fun u hu hr e1 e2 => ?_)
      have hEu := hE.f hu aF_lo
      have hid : u.2.2.1 = w.2.2.1 := by rw [hu.1]
      simp (decide := true) only [show Int32.toInt (nI 0) = 0 from rfl, forall_const, true_implies, false_implies, and_true, true_and, or_self, or_false, false_or, implies_true, s_Ii]
      apply eX4_owedThen
      unfold vX4_owedThen_0
      rw [hid]
      exact K_owedInAll hEu (Or.inr rfl) hr ⟨_, rfl, hQ u (hu.mono sc_F)⟩
    · have hCu := hC.sim hu
      have hE1 : RE T C n (q_wI u 79 0 0) := hCu.2.2.1.t
      have h79 : (q_wI u 79 0 0).1 79 0 = 0 := rd_s
      have hS1 : rR 104 S (q_wI u 79 0 0) := hCu.2.2.2.2.1.eq (fun j => rd_i (by omega))
      have hf1 : fr scr u (q_wI u 79 0 0) := scr_t
      apply eX12_decade
      unfold vX12_decade_0
      intro w1 hw1
      rw [← hw1] at hE1 h79 hS1 hf1
      refine R_within ?_
      rw [p0]
      refine ⟨fun z => absurd z (by decide), fun _ => ?_⟩
      refine R_within ?_
      rw [p1]
      refine ⟨fun z => absurd z (by decide), fun _ => R_may1 h79 ?_⟩
      first | refine ⟨fun z => absurd z (by decide), fun _ => ?_⟩ | refine ⟨fun _ => ?_, fun z => absurd (show ¬ (1 : Int32) = 0 by decide) z⟩
      refine r_goesOn (m := j2) hE1 hβ hS1 hok.1 (by omega) (fun u2 hu2 hr e1 => ?_)
      have hE2 := hE1.d hu2
      have fin := hQ u2 (hf1.trans (hu2.mono sc_D)) ((hu2.2 _ _ rfl).trans h79)
      try simp (disch := omega) only [s_Ii, s_Jj, s_Vn, forall_eq, L_m1, nI_add, nI_clamp, nI_leI, nI_ltI, nI_eq, vp_nI, pk_mul, pk_sub, Nat.zero_add, Nat.add_zero, wr_2, Classical.not_not, true_and, and_true, ne_eq, false_implies, true_implies, implies_true, not_true_eq_false, not_false_eq_true, ia_0, ia_1, za_1, ia_2, za_2, ia_3, za_3, ia_4, za_4, ia_5, za_5, ia_6, za_6, ia_7, za_7, ia_8, za_8, ia_9, za_9, ia_10, za_10, ia_11, za_11, ia_12, za_12, ia_13, za_13, ia_14, za_14, ia_15, za_15, ib_0, ib_1, zb_1, ic_0, ic_1, ic_2, ic_3, zc_1, zc_2, zc_3, id_0, id_1, id_2, id_3, zd_1, zd_2, zd_3, L_0, L_1, L_2, L_3, L_4, L_5, L_6, L_7, L_8, L_9, L_10, L_11, L_12, L_13, L_14, L_15, L_16, L_17, L_18, L_19, L_20, L_24, L_27, L_30, L_31, L_32, L_35, L_36, L_40, L_41, L_43, L_44, L_45, L_46, L_47, L_48, L_50, L_54, L_57, L_58, L_59, L_60, L_61, L_62, L_63, L_91, L_93, L_96, L_97, L_98, L_99, L_100, L_103, L_122, L_145, L_150, L_200, L_255, L_600, L_999, L_1000, L_2000, L_9999, L_10000, L_32767, L_12345, oI_s, oI_n, L_mn, if_true, if_false, ite_true, ite_false, Bool.false_eq_true, Nat.reduceEqDiff, Nat.reduceLeDiff, Nat.reduceLT, Nat.reduceAdd, Nat.reduceSub, Nat.reduceMul, Nat.le_refl, Nat.lt_irrefl, Nat.not_lt_zero]
      exact R_owedAll hE2 hr fin
  · skip
    refine agW_ok (nI (sm (fun d => (dN T β C n (S, x1, 0, 0) j2).1 (20 + d)) (T 7 1))) hI (fun Q X hQ => ?_) (fun u hu Q X hQ => ?_)
    · apply eX11_decade
      unfold vX11_decade_0
      refine K_isIn ?_
      rw [p0]
      refine ⟨fun z => absurd z (by decide), fun _ => ?_⟩
      refine K_isIn ?_
      rw [p1]
      refine ⟨fun z => absurd z (by decide), fun _ => K_req1 ?_⟩
      refine K_liveDecade (m := j2) hE hS hok.1 (by omega) (fun u hu hr e1 e2 => ?_)
      have hEu := hE.f hu aF_lo
      have hid : u.2.2.1 = w.2.2.1 := by rw [hu.1]
      simp (decide := true) only [show Int32.toInt (nI 1) = 1 from rfl, forall_const, true_implies, false_implies, and_true, true_and, or_self, or_false, false_or, implies_true, s_Ii]
      apply eX4_inDefaultThen
      unfold vX4_inDefaultThen_0
      rw [hid]
      exact K_inDefault hEu (Or.inr rfl) hr ⟨_, rfl, hQ u (hu.mono sc_F)⟩
    · have hCu := hC.sim hu
      have hE1 : RE T C n (q_wI u 79 0 0) := hCu.2.2.1.t
      have h79 : (q_wI u 79 0 0).1 79 0 = 0 := rd_s
      have hS1 : rR 104 S (q_wI u 79 0 0) := hCu.2.2.2.2.1.eq (fun j => rd_i (by omega))
      have hf1 : fr scr u (q_wI u 79 0 0) := scr_t
      apply eX12_decade
      unfold vX12_decade_0
      intro w1 hw1
      rw [← hw1] at hE1 h79 hS1 hf1
      refine R_within ?_
      rw [p0]
      refine ⟨fun z => absurd z (by decide), fun _ => ?_⟩
      refine R_within ?_
      rw [p1]
      refine ⟨fun z => absurd z (by decide), fun _ => R_may1 h79 ?_⟩
      first | refine ⟨fun z => absurd z (by decide), fun _ => ?_⟩ | refine ⟨fun _ => ?_, fun z => absurd (show ¬ (1 : Int32) = 0 by decide) z⟩
      refine r_goesOn (m := j2) hE1 hβ hS1 hok.1 (by omega) (fun u2 hu2 hr e1 => ?_)
      have hE2 := hE1.d hu2
      have fin := hQ u2 (hf1.trans (hu2.mono sc_D)) ((hu2.2 _ _ rfl).trans h79)
      try simp (disch := omega) only [s_Ii, s_Jj, s_Vn, forall_eq, L_m1, nI_add, nI_clamp, nI_leI, nI_ltI, nI_eq, vp_nI, pk_mul, pk_sub, Nat.zero_add, Nat.add_zero, wr_2, Classical.not_not, true_and, and_true, ne_eq, false_implies, true_implies, implies_true, not_true_eq_false, not_false_eq_true, ia_0, ia_1, za_1, ia_2, za_2, ia_3, za_3, ia_4, za_4, ia_5, za_5, ia_6, za_6, ia_7, za_7, ia_8, za_8, ia_9, za_9, ia_10, za_10, ia_11, za_11, ia_12, za_12, ia_13, za_13, ia_14, za_14, ia_15, za_15, ib_0, ib_1, zb_1, ic_0, ic_1, ic_2, ic_3, zc_1, zc_2, zc_3, id_0, id_1, id_2, id_3, zd_1, zd_2, zd_3, L_0, L_1, L_2, L_3, L_4, L_5, L_6, L_7, L_8, L_9, L_10, L_11, L_12, L_13, L_14, L_15, L_16, L_17, L_18, L_19, L_20, L_24, L_27, L_30, L_31, L_32, L_35, L_36, L_40, L_41, L_43, L_44, L_45, L_46, L_47, L_48, L_50, L_54, L_57, L_58, L_59, L_60, L_61, L_62, L_63, L_91, L_93, L_96, L_97, L_98, L_99, L_100, L_103, L_122, L_145, L_150, L_200, L_255, L_600, L_999, L_1000, L_2000, L_9999, L_10000, L_32767, L_12345, oI_s, oI_n, L_mn, if_true, if_false, ite_true, ite_false, Bool.false_eq_true, Nat.reduceEqDiff, Nat.reduceLeDiff, Nat.reduceLT, Nat.reduceAdd, Nat.reduceSub, Nat.reduceMul, Nat.le_refl, Nat.lt_irrefl, Nat.not_lt_zero]
      exact R_lateAll hE2 hr fin
  · skip
    refine agW_ok (nI (dN T β C n (S, x1, 0, 0) j2).2.2.1) hI (fun Q X hQ => ?_) (fun u hu Q X hQ => ?_)
    · apply eX11_decade
      unfold vX11_decade_0
      refine K_isIn ?_
      rw [p0]
      refine ⟨fun z => absurd z (by decide), fun _ => ?_⟩
      refine K_isIn ?_
      rw [p1]
      refine ⟨fun z => absurd z (by decide), fun _ => K_req1 ?_⟩
      refine K_liveDecade (m := j2) hE hS hok.1 (by omega) (fun u hu hr e1 e2 => ?_)
      have hEu := hE.f hu aF_lo
      have hid : u.2.2.1 = w.2.2.1 := by rw [hu.1]
      simp (decide := true) only [show Int32.toInt (nI 2) = 2 from rfl, forall_const, true_implies, false_implies, and_true, true_and, or_self, or_false, false_or, implies_true, s_Ii]
      rw [e1]
      exact hQ u (hu.mono sc_F)
    · have hCu := hC.sim hu
      have hE1 : RE T C n (q_wI u 79 0 0) := hCu.2.2.1.t
      have h79 : (q_wI u 79 0 0).1 79 0 = 0 := rd_s
      have hS1 : rR 104 S (q_wI u 79 0 0) := hCu.2.2.2.2.1.eq (fun j => rd_i (by omega))
      have hf1 : fr scr u (q_wI u 79 0 0) := scr_t
      apply eX12_decade
      unfold vX12_decade_0
      intro w1 hw1
      rw [← hw1] at hE1 h79 hS1 hf1
      refine R_within ?_
      rw [p0]
      refine ⟨fun z => absurd z (by decide), fun _ => ?_⟩
      refine R_within ?_
      rw [p1]
      refine ⟨fun z => absurd z (by decide), fun _ => R_may1 h79 ?_⟩
      first | refine ⟨fun z => absurd z (by decide), fun _ => ?_⟩ | refine ⟨fun _ => ?_, fun z => absurd (show ¬ (1 : Int32) = 0 by decide) z⟩
      refine r_goesOn (m := j2) hE1 hβ hS1 hok.1 (by omega) (fun u2 hu2 hr e1 => ?_)
      have hE2 := hE1.d hu2
      have fin := hQ u2 (hf1.trans (hu2.mono sc_D)) ((hu2.2 _ _ rfl).trans h79)
      try simp (disch := omega) only [s_Ii, s_Jj, s_Vn, forall_eq, L_m1, nI_add, nI_clamp, nI_leI, nI_ltI, nI_eq, vp_nI, pk_mul, pk_sub, Nat.zero_add, Nat.add_zero, wr_2, Classical.not_not, true_and, and_true, ne_eq, false_implies, true_implies, implies_true, not_true_eq_false, not_false_eq_true, ia_0, ia_1, za_1, ia_2, za_2, ia_3, za_3, ia_4, za_4, ia_5, za_5, ia_6, za_6, ia_7, za_7, ia_8, za_8, ia_9, za_9, ia_10, za_10, ia_11, za_11, ia_12, za_12, ia_13, za_13, ia_14, za_14, ia_15, za_15, ib_0, ib_1, zb_1, ic_0, ic_1, ic_2, ic_3, zc_1, zc_2, zc_3, id_0, id_1, id_2, id_3, zd_1, zd_2, zd_3, L_0, L_1, L_2, L_3, L_4, L_5, L_6, L_7, L_8, L_9, L_10, L_11, L_12, L_13, L_14, L_15, L_16, L_17, L_18, L_19, L_20, L_24, L_27, L_30, L_31, L_32, L_35, L_36, L_40, L_41, L_43, L_44, L_45, L_46, L_47, L_48, L_50, L_54, L_57, L_58, L_59, L_60, L_61, L_62, L_63, L_91, L_93, L_96, L_97, L_98, L_99, L_100, L_103, L_122, L_145, L_150, L_200, L_255, L_600, L_999, L_1000, L_2000, L_9999, L_10000, L_32767, L_12345, oI_s, oI_n, L_mn, if_true, if_false, ite_true, ite_false, Bool.false_eq_true, Nat.reduceEqDiff, Nat.reduceLeDiff, Nat.reduceLT, Nat.reduceAdd, Nat.reduceSub, Nat.reduceMul, Nat.le_refl, Nat.lt_irrefl, Nat.not_lt_zero]
      rw [e1]
      exact fin
  · skip
    refine agW_ok (nI (dN T β C n (S, x1, 0, 0) j2).2.2.2) hI (fun Q X hQ => ?_) (fun u hu Q X hQ => ?_)
    · apply eX11_decade
      unfold vX11_decade_0
      refine K_isIn ?_
      rw [p0]
      refine ⟨fun z => absurd z (by decide), fun _ => ?_⟩
      refine K_isIn ?_
      rw [p1]
      refine ⟨fun z => absurd z (by decide), fun _ => K_req1 ?_⟩
      refine K_liveDecade (m := j2) hE hS hok.1 (by omega) (fun u hu hr e1 e2 => ?_)
      have hEu := hE.f hu aF_lo
      have hid : u.2.2.1 = w.2.2.1 := by rw [hu.1]
      simp (decide := true) only [show Int32.toInt (nI 3) = 3 from rfl, forall_const, true_implies, false_implies, and_true, true_and, or_self, or_false, false_or, implies_true, s_Ii]
      rw [e2]
      exact hQ u (hu.mono sc_F)
    · have hCu := hC.sim hu
      have hE1 : RE T C n (q_wI u 79 0 0) := hCu.2.2.1.t
      have h79 : (q_wI u 79 0 0).1 79 0 = 0 := rd_s
      have hS1 : rR 104 S (q_wI u 79 0 0) := hCu.2.2.2.2.1.eq (fun j => rd_i (by omega))
      have hf1 : fr scr u (q_wI u 79 0 0) := scr_t
      apply eX12_decade
      unfold vX12_decade_0
      intro w1 hw1
      rw [← hw1] at hE1 h79 hS1 hf1
      refine R_within ?_
      rw [p0]
      refine ⟨fun z => absurd z (by decide), fun _ => ?_⟩
      refine R_within ?_
      rw [p1]
      refine ⟨fun z => absurd z (by decide), fun _ => R_may1 h79 ?_⟩
      first | refine ⟨fun z => absurd z (by decide), fun _ => ?_⟩ | refine ⟨fun _ => ?_, fun z => absurd (show ¬ (1 : Int32) = 0 by decide) z⟩
      refine r_goesOn (m := j2) hE1 hβ hS1 hok.1 (by omega) (fun u2 hu2 hr e1 => ?_)
      have hE2 := hE1.d hu2
      have fin := hQ u2 (hf1.trans (hu2.mono sc_D)) ((hu2.2 _ _ rfl).trans h79)
      try simp (disch := omega) only [s_Ii, s_Jj, s_Vn, forall_eq, L_m1, nI_add, nI_clamp, nI_leI, nI_ltI, nI_eq, vp_nI, pk_mul, pk_sub, Nat.zero_add, Nat.add_zero, wr_2, Classical.not_not, true_and, and_true, ne_eq, false_implies, true_implies, implies_true, not_true_eq_false, not_false_eq_true, ia_0, ia_1, za_1, ia_2, za_2, ia_3, za_3, ia_4, za_4, ia_5, za_5, ia_6, za_6, ia_7, za_7, ia_8, za_8, ia_9, za_9, ia_10, za_10, ia_11, za_11, ia_12, za_12, ia_13, za_13, ia_14, za_14, ia_15, za_15, ib_0, ib_1, zb_1, ic_0, ic_1, ic_2, ic_3, zc_1, zc_2, zc_3, id_0, id_1, id_2, id_3, zd_1, zd_2, zd_3, L_0, L_1, L_2, L_3, L_4, L_5, L_6, L_7, L_8, L_9, L_10, L_11, L_12, L_13, L_14, L_15, L_16, L_17, L_18, L_19, L_20, L_24, L_27, L_30, L_31, L_32, L_35, L_36, L_40, L_41, L_43, L_44, L_45, L_46, L_47, L_48, L_50, L_54, L_57, L_58, L_59, L_60, L_61, L_62, L_63, L_91, L_93, L_96, L_97, L_98, L_99, L_100, L_103, L_122, L_145, L_150, L_200, L_255, L_600, L_999, L_1000, L_2000, L_9999, L_10000, L_32767, L_12345, oI_s, oI_n, L_mn, if_true, if_false, ite_true, ite_false, Bool.false_eq_true, Nat.reduceEqDiff, Nat.reduceLeDiff, Nat.reduceLT, Nat.reduceAdd, Nat.reduceSub, Nat.reduceMul, Nat.le_refl, Nat.lt_irrefl, Nat.not_lt_zero]
      refine r_spentIn (Or.inr rfl) hr (r_spentIn (Or.inl rfl) (hS1.eq (fun j => hu2.2 _ _ rfl)) ?_)
      rw [sp_dN ht hβ, pk_sub (by omega), Nat.add_sub_cancel_left]
      exact fin
def spv (T : Tb) (β C : Nat → Nat) (n : Nat) (S : Nat → Nat) (s : Int32) (k : Nat) : Nat := sm (dN T β C n (S, s, 0, 0) k).1 (T 7 1)
def spl (T : Tb) (β C : Nat → Nat) (n : Nat) (S : Nat → Nat) (s : Int32) (k : Nat) : Nat := sm (fun d => (dN T β C n (S, s, 0, 0) k).1 (20 + d)) (T 7 1)
/-- least, most, clean ones -/
def spn (T : Tb) (β C : Nat → Nat) (n : Nat) (S : Nat → Nat) (s : Int32) (k : Nat) : Nat → Option Nat × Nat × Nat
  | 0 => (none, 0, 0)
  | i + 1 => (match (spn T β C n S s k i).1 with
      | none => some (spv T β C n S (s + nI i) k)
      | some a => some (min a (spv T β C n S (s + nI i) k)), max (spn T β C n S s k i).2.1 (spv T β C n S (s + nI i) k), (spn T β C n S s k i).2.2 + (if spl T β C n S (s + nI i) k = 0 then 1 else 0))
def spI : Option Nat → Int32
  | none => 2147483647
  | some a => nI a
theorem sp_b {T : Tb} {β C : Nat → Nat} {n : Nat} {S : Nat → Nat} {s : Int32} {k : Nat} (ht : tb T) (hβ : ordered T β) (h : rw2 T S) : spv T β C n S s k ≤ 99990 ∧ spl T β C n S s k ≤ 10 := by
  have hR := rw_dN (C := C) (n := n) (x := (S, s, 0, 0)) ht hβ h k
  refine ⟨sm_b ht hR.1, ?_⟩
  have h1 := sm_le (f := fun d => (dN T β C n (S, s, 0, 0) k).1 (20 + d)) (b := 1) (T 7 1) (fun d hd => (hR.1.1 d hd).2.2)
  have h2 := tb_nd ht
  unfold spl
  omega
theorem spn_b {T : Tb} {β C : Nat → Nat} {n : Nat} {S : Nat → Nat} {s : Int32} {k : Nat} (ht : tb T) (hβ : ordered T β) (h : rw2 T S) : ∀ i, (spn T β C n S s k i).2.1 ≤ 99990 ∧ ∀ a, (spn T β C n S s k i).1 = some a → a ≤ 99990 := by
  intro i
  induction i with
  | zero => exact ⟨Nat.zero_le _, fun a e => by cases e⟩
  | succ i ih =>
    have hb := (sp_b (C := C) (n := n) (s := s + nI i) (k := k) ht hβ h).1
    refine ⟨?_, fun a e => ?_⟩
    · show max _ _ ≤ 99990
      have := ih.1
      omega
    · have e : (match (spn T β C n S s k i).1 with
        | none => some (spv T β C n S (s + nI i) k)
        | some a => some (min a (spv T β C n S (s + nI i) k))) = some a := e
      revert e
      cases h2 : (spn T β C n S s k i).1 with
      | none => intro e; cases e; exact hb
      | some b =>
        intro e
        cases e
        omega
theorem spn_1 {T : Tb} {β C : Nat → Nat} {n : Nat} {S : Nat → Nat} {s : Int32} {k i : Nat} (hi : 1 ≤ i) : ∃ a, (spn T β C n S s k i).1 = some a := by
  obtain ⟨j, rfl⟩ : ∃ j, i = j + 1 := ⟨i - 1, by omega⟩
  show ∃ a, (match (spn T β C n S s k j).1 with
    | none => some (spv T β C n S (s + nI j) k)
    | some a => some (min a (spv T β C n S (s + nI j) k))) = some a
  cases (spn T β C n S s k j).1 with
  | none => exact ⟨_, rfl⟩
  | some b => exact ⟨_, rfl⟩
def spA (x : Nat) (p : Option Nat × Nat × Nat) : Int32 := if x = 0 then oI p.1 else if x = 1 then nI p.2.1 else nI p.2.2
theorem ag_span (w : q_Sm) (hI : Inv w) (x1 : Int32) (x2 : Int32) (x3 : Int32) (x4 : Int32) : ag_W Inv 998 1 er_I mX11_span mX12_span w [.int x1, .int x2, .int x3, .int x4] := by
  obtain ⟨T, β, C, n, S, B, m, hC, hPst, hImg, hTp, hCnt⟩ := id hI
  have hE := hC.2.1
  have ht := hE.2.2.1
  have hRE := hC.2.2.1
  have hnc := tb_nc ht
  have hnd := tb_nd ht
  have hnw := tb_nw ht
  have hS := hC.2.2.2.1
  have hSr := hC.2.2.2.2.1
  have hok := hC.2.2.2.2.2.1
  have hβ := hE.ord
  rcases rng1 x2 20 (by omega) with ⟨j2, g2a, g2, rfl⟩ | e0
  rotate_left
  · have e0 : r_in x2 1 20 = 0 := e0
    refine agW_no hI "java/lang/IllegalArgumentException" (nI 1) 14 1 (by omega) (⟨rfl, rfl⟩) (fun Q X hX => ?_) (fun u hu Q X hQ => ?_)
    · apply eX11_span
      unfold vX11_span_0
      refine K_isIn ?_
      rw [e0]
      exact ⟨fun _ => K_req0 hX, fun z => absurd rfl z⟩
    · have hE1 : RE T C n (q_wI u 79 0 0) := (hRE.n1 hu).t
      have h79 : (q_wI u 79 0 0).1 79 0 = 0 := rd_s
      apply eX12_span
      unfold vX12_span_0
      rintro _ rfl
      refine R_within ?_
      rw [e0]
      refine ⟨fun _ => R_no (k := 1) (t := 1) (by omega) (by omega) (by omega) ?_, fun z => absurd rfl z⟩
      first | exact ⟨fun _ => ⟨_, rfl, hQ⟩, fun z => absurd rfl z⟩ | exact ⟨fun z => absurd rfl z, fun _ => ⟨_, rfl, hQ⟩⟩
  have p0 : r_in (nI j2) 1 20 = 1 := r_in1 (a := 1) (b := 20) (by omega) (by omega) (by omega)
  rcases rng1 x3 60 (by omega) with ⟨j3, g3a, g3, rfl⟩ | e1
  rotate_left
  · have e1 : r_in x3 1 60 = 0 := e1
    refine agW_no hI "java/lang/IllegalArgumentException" (nI 1) 14 1 (by omega) (⟨rfl, rfl⟩) (fun Q X hX => ?_) (fun u hu Q X hQ => ?_)
    · apply eX11_span
      unfold vX11_span_0
      refine K_isIn ?_
      rw [p0]
      refine ⟨fun z => absurd z (by decide), fun _ => ?_⟩
      refine K_isIn ?_
      rw [e1]
      exact ⟨fun _ => K_req0 hX, fun z => absurd rfl z⟩
    · have hE1 : RE T C n (q_wI u 79 0 0) := (hRE.n1 hu).t
      have h79 : (q_wI u 79 0 0).1 79 0 = 0 := rd_s
      apply eX12_span
      unfold vX12_span_0
      rintro _ rfl
      refine R_within ?_
      rw [p0]
      refine ⟨fun z => absurd z (by decide), fun _ => ?_⟩
      refine R_within ?_
      rw [e1]
      refine ⟨fun _ => R_no (k := 1) (t := 1) (by omega) (by omega) (by omega) ?_, fun z => absurd rfl z⟩
      first | exact ⟨fun _ => ⟨_, rfl, hQ⟩, fun z => absurd rfl z⟩ | exact ⟨fun z => absurd rfl z, fun _ => ⟨_, rfl, hQ⟩⟩
  have p1 : r_in (nI j3) 1 60 = 1 := r_in1 (a := 1) (b := 60) (by omega) (by omega) (by omega)
  rcases rng x4 2 (by omega) with ⟨j4, g4, rfl⟩ | e2
  rotate_left
  · have e2 : r_in x4 0 2 = 0 := e2
    refine agW_no hI "java/lang/IllegalArgumentException" (nI 1) 14 1 (by omega) (⟨rfl, rfl⟩) (fun Q X hX => ?_) (fun u hu Q X hQ => ?_)
    · apply eX11_span
      unfold vX11_span_0
      refine K_isIn ?_
      rw [p0]
      refine ⟨fun z => absurd z (by decide), fun _ => ?_⟩
      refine K_isIn ?_
      rw [p1]
      refine ⟨fun z => absurd z (by decide), fun _ => ?_⟩
      refine K_isIn ?_
      rw [e2]
      exact ⟨fun _ => K_req0 hX, fun z => absurd rfl z⟩
    · have hE1 : RE T C n (q_wI u 79 0 0) := (hRE.n1 hu).t
      have h79 : (q_wI u 79 0 0).1 79 0 = 0 := rd_s
      apply eX12_span
      unfold vX12_span_0
      rintro _ rfl
      refine R_within ?_
      rw [p0]
      refine ⟨fun z => absurd z (by decide), fun _ => ?_⟩
      refine R_within ?_
      rw [p1]
      refine ⟨fun z => absurd z (by decide), fun _ => ?_⟩
      refine R_within ?_
      rw [e2]
      refine ⟨fun _ => R_no (k := 1) (t := 1) (by omega) (by omega) (by omega) ?_, fun z => absurd rfl z⟩
      first | exact ⟨fun _ => ⟨_, rfl, hQ⟩, fun z => absurd rfl z⟩ | exact ⟨fun z => absurd rfl z, fun _ => ⟨_, rfl, hQ⟩⟩
  have p2 : r_in (nI j4) 0 2 = 1 := r_in1 (a := 0) (b := 2) (by omega) (by omega) (by omega)
  refine agW_ok (spA j4 (spn T β C n S x1 j3 j2)) hI (fun Q X hQ => ?_) (fun u hu Q X hQ => ?_)
  · apply eX11_span
    unfold vX11_span_0
    refine K_isIn ?_
    rw [p0]
    refine ⟨fun z => absurd z (by decide), fun _ => ?_⟩
    refine K_isIn ?_
    rw [p1]
    refine ⟨fun z => absurd z (by decide), fun _ => ?_⟩
    refine K_isIn ?_
    rw [p2]
    refine ⟨fun z => absurd z (by decide), fun _ => K_req1 ?_⟩
    have loop : ∀ i, i ≤ j2 → ∀ u, fr aF w u → s_Ex (998) 0 mX11_span 53 [some (.ref 1), some (.int x1), some (.int (nI j2)), some (.int (nI j3)), some (.int (nI j4)), some (.int (spI (spn T β C n S x1 j3 i).1)), some (.int (nI (spn T β C n S x1 j3 i).2.1)), some (.int (nI (spn T β C n S x1 j3 i).2.2)), some (.int (nI i)), none] [] u (s_I Q) X := by
      refine n_down ?_ ?_
      · intro u hu
        have fin := hQ u (hu.mono sc_F)
        obtain ⟨a, ea⟩ := spn_1 (T := T) (β := β) (C := C) (n := n) (S := S) (s := x1) (k := j3) g2a
        unfold spA at fin
        rw [ea] at fin
        apply xX11_span_53
        unfold vX11_span_53
        rw [ea]
        refine ⟨fun _ => ⟨fun z => ⟨fun z1 => ?_, fun z1 => ?_⟩, fun z => ?_⟩, fun z => absurd (nI_le (Nat.le_refl _) (by omega)) z⟩
        · rw [if_neg (fun q => z (by rw [q]; rfl)), if_neg (fun q => z1 (by rw [q]; rfl))] at fin
          exact ⟨_, rfl, fin⟩
        · have z2 : nI j4 = nI 1 := Decidable.not_not.mp z1
          rw [nI_eq (by omega) (by omega)] at z2
          rw [if_neg (by omega), if_pos z2] at fin
          exact ⟨_, rfl, fin⟩
        · have z2 : nI j4 = nI 0 := Decidable.not_not.mp z
          rw [nI_eq (by omega) (by omega)] at z2
          rw [if_pos z2] at fin
          exact ⟨_, rfl, fin⟩
      · intro i hi ih u hu
        have hEu : KE u.2.2.1 u.2.2.2.2.1 T β C n u := by
          have := hE.f hu aF_lo
          rw [hu.1]
          exact this
        have hSu : cR 57 S u := hS.eq (fun j => hu.2 _ _ rfl)
        have hb := sp_b (C := C) (n := n) (s := x1 + nI i) (k := j3) ht hβ hok.1
        have hb2 := spn_b (C := C) (n := n) (s := x1) (k := j3) ht hβ hok.1 i
        apply xX11_span_53
        unfold vX11_span_53
        refine ⟨fun z => absurd z (nI_ge hi (by omega)), fun _ => ?_⟩
        refine K_liveDecade (m := j3) hEu hSu hok.1 (by omega) (fun u2 hu2 hr e1 e2 => ?_)
        have hE2 := hEu.f hu2 aF_lo
        have hid : u2.2.2.1 = u.2.2.1 := by rw [hu2.1]
        have hu2' := hu.trans hu2
        apply eX4_owedThen
        unfold vX4_owedThen_0
        rw [hid]
        refine K_owedInAll hE2 (Or.inr rfl) hr ⟨_, rfl, ?_⟩
        have mk : ∀ v, v = spI (spn T β C n S x1 j3 (i + 1)).1 → s_EvI (997) 0 mK_max u2 [.int (nI (spn T β C n S x1 j3 i).2.1), .int (nI (spv T β C n S (x1 + nI i) j3))] (fun v21 u22 => s_EvI (997) 0 mX4_inDefaultThen u22 [.ref 67, .ref u22.2.2.1] (fun v23 u24 => ((¬ v23 = 0) → s_Ex (998) 0 mX11_span 53 [some (.ref 1), some (.int x1), some (.int (nI j2)), some (.int (nI j3)), some (.int (nI j4)), some (.int v), some (.int v21), some (.int (nI (spn T β C n S x1 j3 i).2.2)), some (.int (nI i + 1)), none] [] u24 (s_I Q) X) ∧ (¬ (¬ v23 = 0) → s_Ex (998) 0 mX11_span 53 [some (.ref 1), some (.int x1), some (.int (nI j2)), some (.int (nI j3)), some (.int (nI j4)), some (.int v), some (.int v21), some (.int (nI (spn T β C n S x1 j3 i).2.2 + 1)), some (.int (nI i + 1)), none] [] u24 (s_I Q) X)) X) X := by
          rintro v rfl
          refine k_maxN (by omega) (by omega) ?_
          apply eX4_inDefaultThen
          unfold vX4_inDefaultThen_0
          rw [hid]
          refine K_inDefault hE2 (Or.inr rfl) hr ⟨_, rfl, ?_⟩
          have key := ih u2 hu2'
          have e3 : (spn T β C n S x1 j3 (i + 1)).2.2 = (spn T β C n S x1 j3 i).2.2 + (if spl T β C n S (x1 + nI i) j3 = 0 then 1 else 0) := rfl
          have e4 : (spn T β C n S x1 j3 (i + 1)).2.1 = max (spn T β C n S x1 j3 i).2.1 (spv T β C n S (x1 + nI i) j3) := rfl
          rw [e3, e4] at key
          rw [show sm (fun d => (dN T β C n (S, x1 + nI i, 0, 0) j3).1 (20 + d)) (T 7 1) = spl T β C n S (x1 + nI i) j3 from rfl, nI_1, nI_1]
          refine ⟨fun z => ?_, fun z => ?_⟩
          · rw [if_neg (fun q => z (by rw [q]; rfl))] at key
            exact key
          · have z2 : nI (spl T β C n S (x1 + nI i) j3) = nI 0 := Decidable.not_not.mp z
            rw [nI_eq (by omega) (by omega)] at z2
            rw [if_pos z2] at key
            exact key
        have e5 : sm (dN T β C n (S, x1 + nI i, 0, 0) j3).1 (T 7 1) = spv T β C n S (x1 + nI i) j3 := rfl
        rw [e5]
        cases e6 : (spn T β C n S x1 j3 i).1 with
        | none =>
          refine k_min ?_
          rw [if_pos (show nI (spv T β C n S (x1 + nI i) j3) < spI none from (show nI (spv T β C n S (x1 + nI i) j3) < nI 2147483647 from nI_lt (by omega) (by omega)))]
          refine mk _ ?_
          show _ = spI (match (spn T β C n S x1 j3 i).1 with
            | none => some (spv T β C n S (x1 + nI i) j3)
            | some a => some (min a (spv T β C n S (x1 + nI i) j3)))
          rw [e6]
          rfl
        | some a =>
          have := hb2.2 a e6
          refine k_minN (by omega) (by omega) ?_
          refine mk _ ?_
          show _ = spI (match (spn T β C n S x1 j3 i).1 with
            | none => some (spv T β C n S (x1 + nI i) j3)
            | some a => some (min a (spv T β C n S (x1 + nI i) j3)))
          rw [e6]
          rfl
    exact loop 0 (by omega) w (fr.refl _ _)
  · have hCu := hC.sim hu
    have hE1 : RE T C n (q_wI u 79 0 0) := hCu.2.2.1.t
    have h79 : (q_wI u 79 0 0).1 79 0 = 0 := rd_s
    have hS1 : rR 104 S (q_wI u 79 0 0) := hCu.2.2.2.2.1.eq (fun j => rd_i (by omega))
    have hf1 : fr scr u (q_wI u 79 0 0) := scr_t
    apply eX12_span
    unfold vX12_span_0
    intro w1 hw1
    rw [← hw1] at hE1 h79 hS1 hf1
    refine R_within ?_
    rw [p0]
    refine ⟨fun z => absurd z (by decide), fun _ => ?_⟩
    refine R_within ?_
    rw [p1]
    refine ⟨fun z => absurd z (by decide), fun _ => ?_⟩
    refine R_within ?_
    rw [p2]
    refine ⟨fun z => absurd z (by decide), fun _ => R_may1 h79 ?_⟩
    first | refine ⟨fun z => absurd z (by decide), fun _ => ?_⟩ | refine ⟨fun _ => ?_, fun z => absurd (show ¬ (1 : Int32) = 0 by decide) z⟩
    have loop : ∀ i, i ≤ j2 → ∀ u2, fr aD w1 u2 → s_Ex (998 + 1) 0 mX12_span 63 [some (.ref 79), some (.int x1), some (.int (nI j2)), some (.int (nI j3)), some (.int (nI j4)), some (.int (oI (spn T β C n S x1 j3 i).1)), some (.int (nI (spn T β C n S x1 j3 i).2.1)), some (.int (nI (spn T β C n S x1 j3 i).2.2)), some (.int (nI i)), none] [] u2 (s_I Q) X := by
      refine n_down ?_ ?_
      · intro u2 hu2
        have fin := hQ u2 (hf1.trans (hu2.mono sc_D)) ((hu2.2 _ _ rfl).trans h79)
        unfold spA at fin
        apply xX12_span_63
        unfold vX12_span_63
        refine ⟨fun _ => ⟨fun z => ⟨fun z1 => ?_, fun z1 => ?_⟩, fun z => ?_⟩, fun z => absurd (nI_le (Nat.le_refl _) (by omega)) z⟩
        · rw [if_neg (fun q => z (by rw [q]; rfl)), if_neg (fun q => z1 (by rw [q]; rfl))] at fin
          exact ⟨_, rfl, fin⟩
        · have z2 : nI j4 = nI 1 := Decidable.not_not.mp z1
          rw [nI_eq (by omega) (by omega)] at z2
          rw [if_neg (by omega), if_pos z2] at fin
          exact ⟨_, rfl, fin⟩
        · have z2 : nI j4 = nI 0 := Decidable.not_not.mp z
          rw [nI_eq (by omega) (by omega)] at z2
          rw [if_pos z2] at fin
          exact ⟨_, rfl, fin⟩
      · intro i hi ih u2 hu2
        have hSu : rR 104 S u2 := hS1.eq (fun j => hu2.2 _ _ rfl)
        have hb := sp_b (C := C) (n := n) (s := x1 + nI i) (k := j3) ht hβ hok.1
        have hb2 := spn_b (C := C) (n := n) (s := x1) (k := j3) ht hβ hok.1 i
        apply xX12_span_63
        unfold vX12_span_63
        refine ⟨fun z => absurd z (nI_ge hi (by omega)), fun _ => ?_⟩
        refine r_goesOn (m := j3) (hE1.d hu2) hβ hSu hok.1 (by omega) (fun u3 hu3 hr e1 => ?_)
        have hE3 := (hE1.d hu2).d hu3
        have hu3' := hu2.trans hu3
        refine R_owedAll hE3 hr ?_
        have e5 : sm (dN T β C n (S, x1 + nI i, 0, 0) j3).1 (T 7 1) = spv T β C n S (x1 + nI i) j3 := rfl
        rw [e5]
        have mk : ∀ v y, v = oI (spn T β C n S x1 j3 (i + 1)).1 → y = nI (spn T β C n S x1 j3 (i + 1)).2.1 → s_EvI 998 0 mX12_lateAll u3 [.ref 79] (fun v23 u24 => ((¬ v23 = 0) → s_Ex (998 + 1) 0 mX12_span 63 [some (.ref 79), some (.int x1), some (.int (nI j2)), some (.int (nI j3)), some (.int (nI j4)), some (.int v), some (.int y), some (.int (nI (spn T β C n S x1 j3 i).2.2 + 0)), some (.int (nI i + 1)), none] [] u24 (s_I Q) X) ∧ (¬ (¬ v23 = 0) → s_Ex (998 + 1) 0 mX12_span 63 [some (.ref 79), some (.int x1), some (.int (nI j2)), some (.int (nI j3)), some (.int (nI j4)), some (.int v), some (.int y), some (.int (nI (spn T β C n S x1 j3 i).2.2 + 1)), some (.int (nI i + 1)), none] [] u24 (s_I Q) X)) X := by
          rintro v y rfl rfl
          refine R_lateAll hE3 hr ?_
          have key := ih u3 hu3'
          have e3 : (spn T β C n S x1 j3 (i + 1)).2.2 = (spn T β C n S x1 j3 i).2.2 + (if spl T β C n S (x1 + nI i) j3 = 0 then 1 else 0) := rfl
          rw [e3] at key
          rw [show sm (fun d => (dN T β C n (S, x1 + nI i, 0, 0) j3).1 (20 + d)) (T 7 1) = spl T β C n S (x1 + nI i) j3 from rfl, nI_1, nI_1, L_0, nI_add]
          refine ⟨fun z => ?_, fun z => ?_⟩
          · rw [if_neg (fun q => z (by rw [q]))] at key
            exact key
          · have z2 : nI (spl T β C n S (x1 + nI i) j3) = nI 0 := Decidable.not_not.mp z
            rw [nI_eq (by omega) (by omega)] at z2
            rw [if_pos z2] at key
            exact key
        have fy : ∀ a, (match (spn T β C n S x1 j3 i).1 with
            | none => some (spv T β C n S (x1 + nI i) j3)
            | some a => some (min a (spv T β C n S (x1 + nI i) j3))) = some a → (spn T β C n S x1 j3 (i + 1)).1 = some a := fun a e => e
        have fm : (spn T β C n S x1 j3 (i + 1)).2.1 = max (spn T β C n S x1 j3 i).2.1 (spv T β C n S (x1 + nI i) j3) := rfl
        cases e6 : (spn T β C n S x1 j3 i).1 with
        | none =>
          rw [e6] at fy
          refine ⟨fun _ => ⟨fun z => mk _ _ ?_ ?_, fun z => mk _ _ ?_ ?_⟩, fun q => absurd rfl q⟩
          · rw [fy _ rfl]; rfl
          · rw [fm, Nat.max_eq_left ((nI_leI (by omega) (by omega)).mp z)]
          · rw [fy _ rfl]; rfl
          · rw [fm, Nat.max_eq_right (nI_gt z (by omega))]
        | some a =>
          have ha := hb2.2 a e6
          rw [e6] at fy
          refine ⟨fun q => absurd ((oI_n (by omega)).mp q) (fun q => q), fun _ => ⟨fun z => ⟨fun z2 => mk _ _ ?_ ?_, fun z2 => mk _ _ ?_ ?_⟩, fun z => ⟨fun z2 => mk _ _ ?_ ?_, fun z2 => mk _ _ ?_ ?_⟩⟩⟩
          all_goals (rw [oI_s] at z)
          · rw [fy _ rfl, Nat.min_eq_left ((nI_leI (by omega) (by omega)).mp z)]
          · rw [fm, Nat.max_eq_left ((nI_leI (by omega) (by omega)).mp z2)]
          · rw [fy _ rfl, Nat.min_eq_left ((nI_leI (by omega) (by omega)).mp z)]
          · rw [fm, Nat.max_eq_right (nI_gt z2 (by omega))]
          · rw [fy _ rfl, Nat.min_eq_right (nI_gt z (by omega))]; rfl
          · rw [fm, Nat.max_eq_left ((nI_leI (by omega) (by omega)).mp z2)]
          · rw [fy _ rfl, Nat.min_eq_right (nI_gt z (by omega))]; rfl
          · rw [fm, Nat.max_eq_right (nI_gt z2 (by omega))]
    exact loop 0 (by omega) _ (fr.refl _ _)
