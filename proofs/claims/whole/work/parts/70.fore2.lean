/-! delay and decades -/
def dl (T : Tb) (C : Nat → Nat) (n x d : Nat) : Nat → (Nat → Nat) → Nat → Nat
  | 0, _, k => k
  | f + 1, R, k => if psS T C n R d ≤ x then dl T C n x d f (psS T C n R) (k + 1) else k
theorem dl_s (T : Tb) (C : Nat → Nat) (n x d f : Nat) (R : Nat → Nat) (k : Nat) : dl T C n x d (f + 1) R k = if psS T C n R d ≤ x then dl T C n x d f (psS T C n R) (k + 1) else k := rfl
theorem K_dusksToWait {d o l n i x : Nat} {T : Tb} {β C S : Nat → Nat} {w : q_Sm} {Q : Int32 → q_Sm → Prop} {X : s_Xo} (hE : KE o l T β C n w) (hS : cR 57 S w) (hB : rw2 T S) (hi : i < T 7 1) (hx : x ≤ 9999)
    (h0 : ¬ S i ≤ x → Q (oI none) w) (h1 : S i ≤ x → ∀ u, fr aF w u → Q (nI (dl T C n x i 60 S 0)) u) : s_EvI (d + 5) 0 mX4_dusksToWait w [.ref 67, .int (nI i), .int (nI x), .ref 56, .ref o, .ref l] Q X := by
  have ht := hE.2.2.1
  have hb := tb_nd ht
  have b1 := hB.1.1 i hi
  have b62 := hB.2
  have loop : S i ≤ x → ∀ k, k ≤ 60 → ∀ u R, fr aF w u → rb T R → R 62 = S 62 + k → R (10 + i) = S (10 + i) → dl T C n x i (60 - k) R k = dl T C n x i 60 S 0 →
      s_Ex (d + 5) 0 mX4_dusksToWait 25 [none, some (.int (nI i)), some (.int (nI x)), some (.ref 56), some (.ref o), some (.ref l), some (.int (nI (R i))), some (.int (nI (R (40 + i)))), some (.int (nI k)), none] [] u (s_I Q) X := by
    intro hx0
    refine n_down ?_ ?_
    · intro u R hu hR e62 e10 e
      apply xX4_dusksToWait_25
      unfold vX4_dusksToWait_25
      try simp (disch := omega) only [s_Ii, s_Jj, s_Vn, forall_eq, L_m1, nI_add, nI_clamp, nI_leI, nI_ltI, nI_eq, vp_nI, pk_mul, pk_sub, Nat.zero_add, Nat.add_zero, wr_2, Classical.not_not, true_and, and_true, ne_eq, false_implies, true_implies, implies_true, not_true_eq_false, not_false_eq_true, ia_0, ia_1, za_1, ia_2, za_2, ia_3, za_3, ia_4, za_4, ia_5, za_5, ia_6, za_6, ia_7, za_7, ia_8, za_8, ia_9, za_9, ia_10, za_10, ia_11, za_11, ia_12, za_12, ia_13, za_13, ia_14, za_14, ia_15, za_15, ib_0, ib_1, zb_1, ic_0, ic_1, ic_2, ic_3, zc_1, zc_2, zc_3, id_0, id_1, id_2, id_3, zd_1, zd_2, zd_3, L_0, L_1, L_2, L_3, L_4, L_5, L_6, L_7, L_8, L_9, L_10, L_11, L_12, L_13, L_14, L_15, L_16, L_17, L_18, L_19, L_20, L_24, L_27, L_30, L_31, L_32, L_35, L_36, L_40, L_41, L_43, L_44, L_45, L_46, L_47, L_48, L_50, L_54, L_57, L_58, L_59, L_60, L_61, L_62, L_63, L_91, L_93, L_96, L_97, L_98, L_99, L_100, L_103, L_122, L_145, L_150, L_200, L_255, L_600, L_999, L_1000, L_2000, L_9999, L_10000, L_32767, L_12345, oI_s, oI_n, L_mn, if_true, if_false, ite_true, ite_false, Bool.false_eq_true, Nat.reduceEqDiff, Nat.reduceLeDiff, Nat.reduceLT, Nat.reduceAdd, Nat.reduceSub, Nat.reduceMul, Nat.le_refl, Nat.lt_irrefl, Nat.not_lt_zero]
      have := h1 hx0 u hu
      rw [← e] at this
      exact this
    · intro k hk ih u R hu hR e62 e10 e
      have hEu := hE.f hu aF_lo
      have hr : cR 57 S u := hS.eq (fun j => hu.2 _ _ rfl)
      have c1 := hR.1 i hi
      apply xX4_dusksToWait_25
      unfold vX4_dusksToWait_25
      try simp (disch := omega) only [s_Ii, s_Jj, s_Vn, forall_eq, L_m1, nI_add, nI_clamp, nI_leI, nI_ltI, nI_eq, vp_nI, pk_mul, pk_sub, Nat.zero_add, Nat.add_zero, wr_2, Classical.not_not, true_and, and_true, ne_eq, false_implies, true_implies, implies_true, not_true_eq_false, not_false_eq_true, ia_0, ia_1, za_1, ia_2, za_2, ia_3, za_3, ia_4, za_4, ia_5, za_5, ia_6, za_6, ia_7, za_7, ia_8, za_8, ia_9, za_9, ia_10, za_10, ia_11, za_11, ia_12, za_12, ia_13, za_13, ia_14, za_14, ia_15, za_15, ib_0, ib_1, zb_1, ic_0, ic_1, ic_2, ic_3, zc_1, zc_2, zc_3, id_0, id_1, id_2, id_3, zd_1, zd_2, zd_3, L_0, L_1, L_2, L_3, L_4, L_5, L_6, L_7, L_8, L_9, L_10, L_11, L_12, L_13, L_14, L_15, L_16, L_17, L_18, L_19, L_20, L_24, L_27, L_30, L_31, L_32, L_35, L_36, L_40, L_41, L_43, L_44, L_45, L_46, L_47, L_48, L_50, L_54, L_57, L_58, L_59, L_60, L_61, L_62, L_63, L_91, L_93, L_96, L_97, L_98, L_99, L_100, L_103, L_122, L_145, L_150, L_200, L_255, L_600, L_999, L_1000, L_2000, L_9999, L_10000, L_32767, L_12345, oI_s, oI_n, L_mn, if_true, if_false, ite_true, ite_false, Bool.false_eq_true, Nat.reduceEqDiff, Nat.reduceLeDiff, Nat.reduceLT, Nat.reduceAdd, Nat.reduceSub, Nat.reduceMul, Nat.le_refl, Nat.lt_irrefl, Nat.not_lt_zero]
      refine ⟨fun z => absurd z (by omega), fun _ => K_today (Or.inl rfl) hr ?_⟩
      try simp (disch := omega) only [s_Ii, s_Jj, s_Vn, forall_eq, L_m1, nI_add, nI_clamp, nI_leI, nI_ltI, nI_eq, vp_nI, pk_mul, pk_sub, Nat.zero_add, Nat.add_zero, wr_2, Classical.not_not, true_and, and_true, ne_eq, false_implies, true_implies, implies_true, not_true_eq_false, not_false_eq_true, ia_0, ia_1, za_1, ia_2, za_2, ia_3, za_3, ia_4, za_4, ia_5, za_5, ia_6, za_6, ia_7, za_7, ia_8, za_8, ia_9, za_9, ia_10, za_10, ia_11, za_11, ia_12, za_12, ia_13, za_13, ia_14, za_14, ia_15, za_15, ib_0, ib_1, zb_1, ic_0, ic_1, ic_2, ic_3, zc_1, zc_2, zc_3, id_0, id_1, id_2, id_3, zd_1, zd_2, zd_3, L_0, L_1, L_2, L_3, L_4, L_5, L_6, L_7, L_8, L_9, L_10, L_11, L_12, L_13, L_14, L_15, L_16, L_17, L_18, L_19, L_20, L_24, L_27, L_30, L_31, L_32, L_35, L_36, L_40, L_41, L_43, L_44, L_45, L_46, L_47, L_48, L_50, L_54, L_57, L_58, L_59, L_60, L_61, L_62, L_63, L_91, L_93, L_96, L_97, L_98, L_99, L_100, L_103, L_122, L_145, L_150, L_200, L_255, L_600, L_999, L_1000, L_2000, L_9999, L_10000, L_32767, L_12345, oI_s, oI_n, L_mn, if_true, if_false, ite_true, ite_false, Bool.false_eq_true, Nat.reduceEqDiff, Nat.reduceLeDiff, Nat.reduceLT, Nat.reduceAdd, Nat.reduceSub, Nat.reduceMul, Nat.le_refl, Nat.lt_irrefl, Nat.not_lt_zero]
      rw [← e62]
      refine K_growthOf hEu (Or.inl rfl) hr hi (by omega) (by omega) (by omega) (fun u2 hu2 => ?_)
      rw [gw_c (S' := R) e10.symm]
      have gl : gw T C n R i (R i) (R (40 + i)) (R 62) ≤ 99 := gw_le
      try simp (disch := omega) only [s_Ii, s_Jj, s_Vn, forall_eq, L_m1, nI_add, nI_clamp, nI_leI, nI_ltI, nI_eq, vp_nI, pk_mul, pk_sub, Nat.zero_add, Nat.add_zero, wr_2, Classical.not_not, true_and, and_true, ne_eq, false_implies, true_implies, implies_true, not_true_eq_false, not_false_eq_true, ia_0, ia_1, za_1, ia_2, za_2, ia_3, za_3, ia_4, za_4, ia_5, za_5, ia_6, za_6, ia_7, za_7, ia_8, za_8, ia_9, za_9, ia_10, za_10, ia_11, za_11, ia_12, za_12, ia_13, za_13, ia_14, za_14, ia_15, za_15, ib_0, ib_1, zb_1, ic_0, ic_1, ic_2, ic_3, zc_1, zc_2, zc_3, id_0, id_1, id_2, id_3, zd_1, zd_2, zd_3, L_0, L_1, L_2, L_3, L_4, L_5, L_6, L_7, L_8, L_9, L_10, L_11, L_12, L_13, L_14, L_15, L_16, L_17, L_18, L_19, L_20, L_24, L_27, L_30, L_31, L_32, L_35, L_36, L_40, L_41, L_43, L_44, L_45, L_46, L_47, L_48, L_50, L_54, L_57, L_58, L_59, L_60, L_61, L_62, L_63, L_91, L_93, L_96, L_97, L_98, L_99, L_100, L_103, L_122, L_145, L_150, L_200, L_255, L_600, L_999, L_1000, L_2000, L_9999, L_10000, L_32767, L_12345, oI_s, oI_n, L_mn, if_true, if_false, ite_true, ite_false, Bool.false_eq_true, Nat.reduceEqDiff, Nat.reduceLeDiff, Nat.reduceLT, Nat.reduceAdd, Nat.reduceSub, Nat.reduceMul, Nat.le_refl, Nat.lt_irrefl, Nat.not_lt_zero]
      refine k_minN (by omega) (by omega) ?_
      obtain ⟨p1, p2, -, p4⟩ := ps_d (C := C) (n := n) (S := R) ht hi
      have e1 : min 9999 (R i + gw T C n R i (R i) (R (40 + i)) (R 62)) = psS T C n R i := by rw [p1]; rfl
      rw [e1]
      have hR2 := rb_ps (C := C) (n := n) ht hR (by omega)
      have c2 := hR2.1 i hi
      have hu2' : fr aF w u2 := hu.trans (hu2.mono (fun i j q => aR_aF i j (aL_aR 68 i j q)))
      obtain ⟨f, hf⟩ : ∃ f, 60 - k = f + 1 := ⟨59 - k, by omega⟩
      rw [hf, dl_s T C n x i f R k] at e
      try simp (disch := omega) only [s_Ii, s_Jj, s_Vn, forall_eq, L_m1, nI_add, nI_clamp, nI_leI, nI_ltI, nI_eq, vp_nI, pk_mul, pk_sub, Nat.zero_add, Nat.add_zero, wr_2, Classical.not_not, true_and, and_true, ne_eq, false_implies, true_implies, implies_true, not_true_eq_false, not_false_eq_true, ia_0, ia_1, za_1, ia_2, za_2, ia_3, za_3, ia_4, za_4, ia_5, za_5, ia_6, za_6, ia_7, za_7, ia_8, za_8, ia_9, za_9, ia_10, za_10, ia_11, za_11, ia_12, za_12, ia_13, za_13, ia_14, za_14, ia_15, za_15, ib_0, ib_1, zb_1, ic_0, ic_1, ic_2, ic_3, zc_1, zc_2, zc_3, id_0, id_1, id_2, id_3, zd_1, zd_2, zd_3, L_0, L_1, L_2, L_3, L_4, L_5, L_6, L_7, L_8, L_9, L_10, L_11, L_12, L_13, L_14, L_15, L_16, L_17, L_18, L_19, L_20, L_24, L_27, L_30, L_31, L_32, L_35, L_36, L_40, L_41, L_43, L_44, L_45, L_46, L_47, L_48, L_50, L_54, L_57, L_58, L_59, L_60, L_61, L_62, L_63, L_91, L_93, L_96, L_97, L_98, L_99, L_100, L_103, L_122, L_145, L_150, L_200, L_255, L_600, L_999, L_1000, L_2000, L_9999, L_10000, L_32767, L_12345, oI_s, oI_n, L_mn, if_true, if_false, ite_true, ite_false, Bool.false_eq_true, Nat.reduceEqDiff, Nat.reduceLeDiff, Nat.reduceLT, Nat.reduceAdd, Nat.reduceSub, Nat.reduceMul, Nat.le_refl, Nat.lt_irrefl, Nat.not_lt_zero]
      refine ⟨fun z => ?_, fun z => ?_⟩
      · rw [if_pos z] at e
        have := ih u2 (psS T C n R) hu2' hR2 (by rw [ps_62]; omega) (by rw [p2]; exact e10) (by rw [show 60 - (k + 1) = f by omega]; exact e)
        rw [p4] at this
        exact this
      · rw [if_neg z] at e
        have := h1 hx0 u2 hu2'
        rw [← e] at this
        exact this
  apply eX4_dusksToWait
  unfold vX4_dusksToWait_0
  refine ⟨q_id_of rfl, K_owed (Or.inl rfl) hS (by omega) ?_⟩
  try simp (disch := omega) only [s_Ii, s_Jj, s_Vn, forall_eq, L_m1, nI_add, nI_clamp, nI_leI, nI_ltI, nI_eq, vp_nI, pk_mul, pk_sub, Nat.zero_add, Nat.add_zero, wr_2, Classical.not_not, true_and, and_true, ne_eq, false_implies, true_implies, implies_true, not_true_eq_false, not_false_eq_true, ia_0, ia_1, za_1, ia_2, za_2, ia_3, za_3, ia_4, za_4, ia_5, za_5, ia_6, za_6, ia_7, za_7, ia_8, za_8, ia_9, za_9, ia_10, za_10, ia_11, za_11, ia_12, za_12, ia_13, za_13, ia_14, za_14, ia_15, za_15, ib_0, ib_1, zb_1, ic_0, ic_1, ic_2, ic_3, zc_1, zc_2, zc_3, id_0, id_1, id_2, id_3, zd_1, zd_2, zd_3, L_0, L_1, L_2, L_3, L_4, L_5, L_6, L_7, L_8, L_9, L_10, L_11, L_12, L_13, L_14, L_15, L_16, L_17, L_18, L_19, L_20, L_24, L_27, L_30, L_31, L_32, L_35, L_36, L_40, L_41, L_43, L_44, L_45, L_46, L_47, L_48, L_50, L_54, L_57, L_58, L_59, L_60, L_61, L_62, L_63, L_91, L_93, L_96, L_97, L_98, L_99, L_100, L_103, L_122, L_145, L_150, L_200, L_255, L_600, L_999, L_1000, L_2000, L_9999, L_10000, L_32767, L_12345, oI_s, oI_n, L_mn, if_true, if_false, ite_true, ite_false, Bool.false_eq_true, Nat.reduceEqDiff, Nat.reduceLeDiff, Nat.reduceLT, Nat.reduceAdd, Nat.reduceSub, Nat.reduceMul, Nat.le_refl, Nat.lt_irrefl, Nat.not_lt_zero]
  refine ⟨fun z => K_paidToday (Or.inl rfl) hS (by omega) ?_, fun z => h0 z⟩
  exact loop z 0 (by omega) w S (fr.refl _ _) hB.1 rfl rfl rfl
theorem r_delayL {d n i x : Nat} {T : Tb} {C S : Nat → Nat} {w : q_Sm} {Q : Int32 → q_Sm → Prop} {X : s_Xo} (hE : RE T C n w) (hS : rR 105 S w) (hB : rw2 T S) (hi : i < T 7 1) (hx : x ≤ 9999)
    (h : ∀ u, fr aS w u → Q (nI (dl T C n x i 60 S 0)) u) : s_Ex (d + 7) 0 mX12_delay 53 [some (.ref 79), some (.int (nI i)), some (.int (nI x)), some (.int (nI 0))] [] w (s_I Q) X := by
  have ht := hE.1
  have hb := tb_nd ht
  have b62 := hB.2
  have loop : ∀ k, k ≤ 60 → ∀ u R, fr aS w u → rR 105 R u → rb T R → R 62 = S 62 + k → dl T C n x i (60 - k) R k = dl T C n x i 60 S 0 → s_Ex (d + 7) 0 mX12_delay 53 [some (.ref 79), some (.int (nI i)), some (.int (nI x)), some (.int (nI k))] [] u (s_I Q) X := by
    refine n_down ?_ ?_
    · intro u R hu hr hR e62 e
      apply xX12_delay_53
      unfold vX12_delay_53
      try simp (disch := omega) only [s_Ii, s_Jj, s_Vn, forall_eq, L_m1, nI_add, nI_clamp, nI_leI, nI_ltI, nI_eq, vp_nI, pk_mul, pk_sub, Nat.zero_add, Nat.add_zero, wr_2, Classical.not_not, true_and, and_true, ne_eq, false_implies, true_implies, implies_true, not_true_eq_false, not_false_eq_true, ia_0, ia_1, za_1, ia_2, za_2, ia_3, za_3, ia_4, za_4, ia_5, za_5, ia_6, za_6, ia_7, za_7, ia_8, za_8, ia_9, za_9, ia_10, za_10, ia_11, za_11, ia_12, za_12, ia_13, za_13, ia_14, za_14, ia_15, za_15, ib_0, ib_1, zb_1, ic_0, ic_1, ic_2, ic_3, zc_1, zc_2, zc_3, id_0, id_1, id_2, id_3, zd_1, zd_2, zd_3, L_0, L_1, L_2, L_3, L_4, L_5, L_6, L_7, L_8, L_9, L_10, L_11, L_12, L_13, L_14, L_15, L_16, L_17, L_18, L_19, L_20, L_24, L_27, L_30, L_31, L_32, L_35, L_36, L_40, L_41, L_43, L_44, L_45, L_46, L_47, L_48, L_50, L_54, L_57, L_58, L_59, L_60, L_61, L_62, L_63, L_91, L_93, L_96, L_97, L_98, L_99, L_100, L_103, L_122, L_145, L_150, L_200, L_255, L_600, L_999, L_1000, L_2000, L_9999, L_10000, L_32767, L_12345, oI_s, oI_n, L_mn, if_true, if_false, ite_true, ite_false, Bool.false_eq_true, Nat.reduceEqDiff, Nat.reduceLeDiff, Nat.reduceLT, Nat.reduceAdd, Nat.reduceSub, Nat.reduceMul, Nat.le_refl, Nat.lt_irrefl, Nat.not_lt_zero]
      have := h u hu
      rw [← e] at this
      exact this
    · intro k hk ih u R hu hr hR e62 e
      apply xX12_delay_53
      unfold vX12_delay_53
      try simp (disch := omega) only [s_Ii, s_Jj, s_Vn, forall_eq, L_m1, nI_add, nI_clamp, nI_leI, nI_ltI, nI_eq, vp_nI, pk_mul, pk_sub, Nat.zero_add, Nat.add_zero, wr_2, Classical.not_not, true_and, and_true, ne_eq, false_implies, true_implies, implies_true, not_true_eq_false, not_false_eq_true, ia_0, ia_1, za_1, ia_2, za_2, ia_3, za_3, ia_4, za_4, ia_5, za_5, ia_6, za_6, ia_7, za_7, ia_8, za_8, ia_9, za_9, ia_10, za_10, ia_11, za_11, ia_12, za_12, ia_13, za_13, ia_14, za_14, ia_15, za_15, ib_0, ib_1, zb_1, ic_0, ic_1, ic_2, ic_3, zc_1, zc_2, zc_3, id_0, id_1, id_2, id_3, zd_1, zd_2, zd_3, L_0, L_1, L_2, L_3, L_4, L_5, L_6, L_7, L_8, L_9, L_10, L_11, L_12, L_13, L_14, L_15, L_16, L_17, L_18, L_19, L_20, L_24, L_27, L_30, L_31, L_32, L_35, L_36, L_40, L_41, L_43, L_44, L_45, L_46, L_47, L_48, L_50, L_54, L_57, L_58, L_59, L_60, L_61, L_62, L_63, L_91, L_93, L_96, L_97, L_98, L_99, L_100, L_103, L_122, L_145, L_150, L_200, L_255, L_600, L_999, L_1000, L_2000, L_9999, L_10000, L_32767, L_12345, oI_s, oI_n, L_mn, if_true, if_false, ite_true, ite_false, Bool.false_eq_true, Nat.reduceEqDiff, Nat.reduceLeDiff, Nat.reduceLT, Nat.reduceAdd, Nat.reduceSub, Nat.reduceMul, Nat.le_refl, Nat.lt_irrefl, Nat.not_lt_zero]
      refine ⟨fun z => absurd z (by omega), fun _ => r_passes (hE.f hu aS_lo) hr hR (fun u2 hu2 hr2 => ?_)⟩
      have hR2 := rb_ps (C := C) (n := n) ht hR (by omega)
      have c2 := hR2.1 i hi
      have hu2' := hu.trans hu2
      obtain ⟨f, hf⟩ : ∃ f, 60 - k = f + 1 := ⟨59 - k, by omega⟩
      rw [hf, dl_s T C n x i f R k] at e
      try simp (disch := omega) only [s_Ii, s_Jj, s_Vn, forall_eq, L_m1, nI_add, nI_clamp, nI_leI, nI_ltI, nI_eq, vp_nI, pk_mul, pk_sub, Nat.zero_add, Nat.add_zero, wr_2, Classical.not_not, true_and, and_true, ne_eq, false_implies, true_implies, implies_true, not_true_eq_false, not_false_eq_true, ia_0, ia_1, za_1, ia_2, za_2, ia_3, za_3, ia_4, za_4, ia_5, za_5, ia_6, za_6, ia_7, za_7, ia_8, za_8, ia_9, za_9, ia_10, za_10, ia_11, za_11, ia_12, za_12, ia_13, za_13, ia_14, za_14, ia_15, za_15, ib_0, ib_1, zb_1, ic_0, ic_1, ic_2, ic_3, zc_1, zc_2, zc_3, id_0, id_1, id_2, id_3, zd_1, zd_2, zd_3, L_0, L_1, L_2, L_3, L_4, L_5, L_6, L_7, L_8, L_9, L_10, L_11, L_12, L_13, L_14, L_15, L_16, L_17, L_18, L_19, L_20, L_24, L_27, L_30, L_31, L_32, L_35, L_36, L_40, L_41, L_43, L_44, L_45, L_46, L_47, L_48, L_50, L_54, L_57, L_58, L_59, L_60, L_61, L_62, L_63, L_91, L_93, L_96, L_97, L_98, L_99, L_100, L_103, L_122, L_145, L_150, L_200, L_255, L_600, L_999, L_1000, L_2000, L_9999, L_10000, L_32767, L_12345, oI_s, oI_n, L_mn, if_true, if_false, ite_true, ite_false, Bool.false_eq_true, Nat.reduceEqDiff, Nat.reduceLeDiff, Nat.reduceLT, Nat.reduceAdd, Nat.reduceSub, Nat.reduceMul, Nat.le_refl, Nat.lt_irrefl, Nat.not_lt_zero, hr2 _]
      refine ⟨by omega, fun z => ?_, fun z => ?_⟩
      · rw [if_pos z] at e
        exact ih u2 (psS T C n R) hu2' hr2 hR2 (by rw [ps_62]; omega) (by rw [show 60 - (k + 1) = f by omega]; exact e)
      · rw [if_neg z] at e
        have := h u2 hu2'
        rw [← e] at this
        exact this
  exact loop 0 (by omega) w S (fr.refl _ _) hS hB.1 rfl rfl
/-- fog: what is left of light is lost -/
def lo (S : Nat → Nat) : Nat → Nat → Nat
  | 0 => S
  | k + 1 => up (lo S k) (50 + k) 0
theorem lo_o {S : Nat → Nat} {j : Nat} : ∀ k, k ≤ 4 → (j < 50 ∨ 54 ≤ j) → lo S k j = S j := by
  intro k
  induction k with
  | zero => intro _ _; rfl
  | succ k ih =>
    intro hk hj
    show up (lo S k) (50 + k) 0 j = S j
    rw [up_n (by omega), ih (by omega) hj]
theorem lo_i {S : Nat → Nat} {j : Nat} : ∀ k, j < k → lo S k (50 + j) = 0 := by
  intro k
  induction k with
  | zero => intro h; omega
  | succ k ih =>
    intro hk
    show up (lo S k) (50 + k) 0 (50 + j) = 0
    by_cases q : j = k
    · subst q; rw [up_s]
    · rw [up_n (by omega), ih (by omega)]
theorem rw_lo {T : Tb} {S : Nat → Nat} (ht : tb T) (h : rw2 T S) : rw2 T (lo S 4) := by
  have hb := tb_nd ht
  refine ⟨⟨fun d hd => ?_, fun k hk => ?_, ?_⟩, ?_⟩
  · rw [lo_o _ (by omega) (by omega), lo_o _ (by omega) (by omega), lo_o _ (by omega) (by omega)]
    exact h.1.1 d hd
  · rw [lo_i _ hk, lo_o _ (by omega) (by omega)]
    have := h.1.2.1 k hk
    omega
  · rw [lo_o _ (by omega) (by omega)]; exact h.1.2.2
  · rw [lo_o _ (by omega) (by omega)]; exact h.2
theorem K_loseLight {d : Nat} {S : Nat → Nat} {w : q_Sm} {Q : q_Sm → Prop} {X : s_Xo} (hS : cR 69 S w) (h : ∀ u, fr (aR 68) w u → cR 69 (lo S 4) u → Q u) : s_EvV (d + 1) 0 mX6_loseLight w [.ref 68] Q X := by
  have loop : ∀ k, k ≤ 4 → ∀ u, fr (aR 68) w u → cR 69 (lo S k) u → s_Ex (d + 1) 0 mX6_loseLight 2 [some (.ref 68), some (.int (nI k))] [] u (s_V Q) X := by
    refine n_down ?_ ?_
    · intro u hu hr
      apply xX6_loseLight_2
      unfold vX6_loseLight_2
      try simp (disch := omega) only [s_Ii, s_Jj, s_Vn, forall_eq, L_m1, nI_add, nI_clamp, nI_leI, nI_ltI, nI_eq, vp_nI, pk_mul, pk_sub, Nat.zero_add, Nat.add_zero, wr_2, Classical.not_not, true_and, and_true, ne_eq, false_implies, true_implies, implies_true, not_true_eq_false, not_false_eq_true, ia_0, ia_1, za_1, ia_2, za_2, ia_3, za_3, ia_4, za_4, ia_5, za_5, ia_6, za_6, ia_7, za_7, ia_8, za_8, ia_9, za_9, ia_10, za_10, ia_11, za_11, ia_12, za_12, ia_13, za_13, ia_14, za_14, ia_15, za_15, ib_0, ib_1, zb_1, ic_0, ic_1, ic_2, ic_3, zc_1, zc_2, zc_3, id_0, id_1, id_2, id_3, zd_1, zd_2, zd_3, L_0, L_1, L_2, L_3, L_4, L_5, L_6, L_7, L_8, L_9, L_10, L_11, L_12, L_13, L_14, L_15, L_16, L_17, L_18, L_19, L_20, L_24, L_27, L_30, L_31, L_32, L_35, L_36, L_40, L_41, L_43, L_44, L_45, L_46, L_47, L_48, L_50, L_54, L_57, L_58, L_59, L_60, L_61, L_62, L_63, L_91, L_93, L_96, L_97, L_98, L_99, L_100, L_103, L_122, L_145, L_150, L_200, L_255, L_600, L_999, L_1000, L_2000, L_9999, L_10000, L_32767, L_12345, oI_s, oI_n, L_mn, if_true, if_false, ite_true, ite_false, Bool.false_eq_true, Nat.reduceEqDiff, Nat.reduceLeDiff, Nat.reduceLT, Nat.reduceAdd, Nat.reduceSub, Nat.reduceMul, Nat.le_refl, Nat.lt_irrefl, Nat.not_lt_zero]
      exact h u hu hr
    · intro k hk ih u hu hr
      have ho : (68 : Nat) = 56 ∨ (68 : Nat) = 68 := Or.inr rfl
      apply xX6_loseLight_2
      unfold vX6_loseLight_2
      refine ⟨fun z => absurd (show nI 4 ≤ nI k from z) (nI_ge hk (by omega)), fun _ => ⟨q_id_of rfl, q_id_of rfl, ?_⟩⟩
      rw [show (q_sh (68 + 1)).2 = 59 from rfl]
      try simp (disch := omega) only [s_Ii, s_Jj, s_Vn, forall_eq, L_m1, nI_add, nI_clamp, nI_leI, nI_ltI, nI_eq, vp_nI, pk_mul, pk_sub, Nat.zero_add, Nat.add_zero, wr_2, Classical.not_not, true_and, and_true, ne_eq, false_implies, true_implies, implies_true, not_true_eq_false, not_false_eq_true, ia_0, ia_1, za_1, ia_2, za_2, ia_3, za_3, ia_4, za_4, ia_5, za_5, ia_6, za_6, ia_7, za_7, ia_8, za_8, ia_9, za_9, ia_10, za_10, ia_11, za_11, ia_12, za_12, ia_13, za_13, ia_14, za_14, ia_15, za_15, ib_0, ib_1, zb_1, ic_0, ic_1, ic_2, ic_3, zc_1, zc_2, zc_3, id_0, id_1, id_2, id_3, zd_1, zd_2, zd_3, L_0, L_1, L_2, L_3, L_4, L_5, L_6, L_7, L_8, L_9, L_10, L_11, L_12, L_13, L_14, L_15, L_16, L_17, L_18, L_19, L_20, L_24, L_27, L_30, L_31, L_32, L_35, L_36, L_40, L_41, L_43, L_44, L_45, L_46, L_47, L_48, L_50, L_54, L_57, L_58, L_59, L_60, L_61, L_62, L_63, L_91, L_93, L_96, L_97, L_98, L_99, L_100, L_103, L_122, L_145, L_150, L_200, L_255, L_600, L_999, L_1000, L_2000, L_9999, L_10000, L_32767, L_12345, oI_s, oI_n, L_mn, if_true, if_false, ite_true, ite_false, Bool.false_eq_true, Nat.reduceEqDiff, Nat.reduceLeDiff, Nat.reduceLT, Nat.reduceAdd, Nat.reduceSub, Nat.reduceMul, Nat.le_refl, Nat.lt_irrefl, Nat.not_lt_zero]
      exact ⟨by omega, ih _ (hu.put rfl) (hr.put (by omega) (pm_50 hk))⟩
  apply eX6_loseLight
  unfold vX6_loseLight_0
  exact loop 0 (by omega) w (fr.refl _ _) hS
def sd1 (s : Int32) : Int32 := s * 1103515245 + 12345
def drw (s : Int32) : Int32 := ((s >>> ((16 : Int32) &&& 31)) &&& 32767) - ((s >>> ((16 : Int32) &&& 31)) &&& 32767) / 16 * 16
/-- a decade's state: row, seed, fogs, parts paid -/
abbrev DS : Type := (Nat → Nat) × Int32 × Nat × Nat
def dR (T : Tb) (x : DS) : Nat → Nat := if nI (T 7 4) ≤ drw (sd1 x.2.1) then x.1 else lo x.1 4
def dS (T : Tb) (β C : Nat → Nat) (n : Nat) (x : DS) : DS :=
  (nx T C n (pb T β (dR T x)), sd1 x.2.1, x.2.2.1 + (if nI (T 7 4) ≤ drw (sd1 x.2.1) then 0 else 1), x.2.2.2 + pp T β (dR T x) (T 7 1))
def dN (T : Tb) (β C : Nat → Nat) (n : Nat) (x : DS) : Nat → DS
  | 0 => x
  | k + 1 => dS T β C n (dN T β C n x k)
theorem rw_dR {T : Tb} {x : DS} (ht : tb T) (h : rw2 T x.1) : rw2 T (dR T x) := by
  unfold dR
  split
  · exact h
  · exact rw_lo ht h
theorem rw_dN {T : Tb} {β C : Nat → Nat} {n : Nat} {x : DS} (ht : tb T) (hβ : ordered T β) (h : rw2 T x.1) : ∀ k, rw2 T (dN T β C n x k).1 := by
  intro k
  induction k with
  | zero => exact h
  | succ k ih => exact rw_nx ht (rw_pb ht hβ (rw_dR ht ih))
theorem KE.fog {o l n : Nat} {T : Tb} {β C : Nat → Nat} {w : q_Sm} (h : KE o l T β C n w) : w.1 o 18 = nI (T 7 4) := h.2.2.2.1.1.2.2.2.2
theorem K_liveDecade {d o l n m : Nat} {s : Int32} {T : Tb} {β C S : Nat → Nat} {w : q_Sm} {Q : q_Sm → Prop} {X : s_Xo} (hE : KE o l T β C n w) (hS : cR 57 S w) (hB : rw2 T S) (hm : m ≤ 60)
    (h : ∀ u, fr aF w u → cR 69 (dN T β C n (S, s, 0, 0) m).1 u → u.1 67 1 = nI (dN T β C n (S, s, 0, 0) m).2.2.1 → u.1 67 2 = nI (dN T β C n (S, s, 0, 0) m).2.2.2 → Q u) : s_EvV (d + 5) 0 mX4_liveDecade w [.ref 67, .int s, .int (nI m), .ref 56, .ref o, .ref l] Q X := by
  have ht := hE.2.2.1
  have hβ := hE.ord
  have hoo := hE.1
  have loop : ∀ i, i ≤ m → ∀ u, fr aF w u → cR 69 (dN T β C n (S, s, 0, 0) i).1 u → u.1 67 1 = nI (dN T β C n (S, s, 0, 0) i).2.2.1 → u.1 67 2 = nI (dN T β C n (S, s, 0, 0) i).2.2.2 →
      s_Ex (d + 5) 0 mX4_liveDecade 24 [some (.ref 67), none, some (.int (nI m)), none, some (.ref o), some (.ref l), some (.int (dN T β C n (S, s, 0, 0) i).2.1), some (.int (nI i))] [] u (s_V Q) X := by
    refine n_down ?_ ?_
    · intro u hu hr h1 h2
      apply xX4_liveDecade_24
      unfold vX4_liveDecade_24
      exact ⟨fun _ => ⟨rfl, h u hu hr h1 h2⟩, fun z => absurd (nI_le (Nat.le_refl _) (by omega)) z⟩
    · intro i hi ih u hu hr h1 h2
      have hEu := hE.f hu aF_lo
      have hR := rw_dN (C := C) (n := n) (x := (S, s, 0, 0)) ht hβ hB i
      have ihx : ∀ u, fr aF w u → cR 69 (dS T β C n (dN T β C n (S, s, 0, 0) i)).1 u → u.1 67 1 = nI (dS T β C n (dN T β C n (S, s, 0, 0) i)).2.2.1 → u.1 67 2 = nI (dS T β C n (dN T β C n (S, s, 0, 0) i)).2.2.2 →
        s_Ex (d + 5) 0 mX4_liveDecade 24 [some (.ref 67), none, some (.int (nI m)), none, some (.ref o), some (.ref l), some (.int (sd1 (dN T β C n (S, s, 0, 0) i).2.1)), some (.int (nI (i + 1)))] [] u (s_V Q) X := ih
      clear ih
      generalize hx : dN T β C n (S, s, 0, 0) i = x at *
      apply xX4_liveDecade_24
      unfold vX4_liveDecade_24
      rw [hEu.fog, show x.2.1 * 1103515245 + 12345 = sd1 x.2.1 from rfl, dw_eq, nI_1]
      rw [show (((sd1 x.2.1 >>> ((16 : Int32) &&& 31)) &&& 32767) - ((sd1 x.2.1 >>> ((16 : Int32) &&& 31)) &&& 32767) / 16 * 16) = drw (sd1 x.2.1) from rfl]
      refine ⟨fun z => absurd z (nI_ge hi (by omega)), fun _ => ⟨ia_0 hoo, fun z => ?_, fun z => ?_⟩⟩
      · have e1 : dR T x = x.1 := if_pos z
        refine K_payByTerm hEu (Or.inr rfl) hr hR.1 (fun u2 hu2 hr2 => ?_)
        rintro _ rfl
        have hu2' := hu.trans (hu2.mono aR_aF)
        have hr2' : cR 69 (pb T β x.1) (q_wI u2 67 2 (u.1 67 2 + nI (pp T β x.1 (T 7 1)))) := fun k hk => by rw [rd_i (by omega)]; exact hr2 k hk
        refine K_pass2 (hE.f (hu2'.put rfl) aF_lo) hr2' (rw_pb ht hβ hR) (fun v u3 hu3 hr3 => ?_)
        refine ihx u3 ((hu2'.put rfl).trans (hu3.mono aR_aF)) ?_ ?_ ?_
        · show cR 69 (nx T C n (pb T β (dR T x))) u3
          rw [e1]; exact hr3
        · rw [hu3.2 _ _ rfl, rd_j (by omega), hu2.2 _ _ rfl, h1]
          show _ = nI (x.2.2.1 + (if nI (T 7 4) ≤ drw (sd1 x.2.1) then 0 else 1))
          rw [if_pos z]; rfl
        · rw [hu3.2 _ _ rfl, rd_s, h2, nI_add]
          show _ = nI (x.2.2.2 + pp T β (dR T x) (T 7 1))
          rw [e1]
      · have e1 : dR T x = lo x.1 4 := if_neg z
        rintro _ rfl
        have hr1 : cR 69 x.1 (q_wI u 67 1 (u.1 67 1 + 1)) := fun k hk => by rw [rd_i (by omega)]; exact hr k hk
        refine K_loseLight hr1 (fun u2 hu2 hr2 => ?_)
        have hu2' : fr aF w u2 := (hu.put rfl).trans (hu2.mono aR_aF)
        have hR1 := rw_lo ht hR
        refine K_payByTerm (hE.f hu2' aF_lo) (Or.inr rfl) hr2 hR1.1 (fun u4 hu4 hr4 => ?_)
        rintro _ rfl
        have hu4' := hu2'.trans (hu4.mono aR_aF)
        have hr4' : cR 69 (pb T β (lo x.1 4)) (q_wI u4 67 2 (u2.1 67 2 + nI (pp T β (lo x.1 4) (T 7 1)))) := fun k hk => by rw [rd_i (by omega)]; exact hr4 k hk
        refine K_pass2 (hE.f (hu4'.put rfl) aF_lo) hr4' (rw_pb ht hβ hR1) (fun v u3 hu3 hr3 => ?_)
        refine ihx u3 ((hu4'.put rfl).trans (hu3.mono aR_aF)) ?_ ?_ ?_
        · show cR 69 (nx T C n (pb T β (dR T x))) u3
          rw [e1]; exact hr3
        · rw [hu3.2 _ _ rfl, rd_j (by omega), hu4.2 _ _ rfl, hu2.2 _ _ rfl, rd_s, h1, nI_1]
          show _ = nI (x.2.2.1 + (if nI (T 7 4) ≤ drw (sd1 x.2.1) then 0 else 1))
          rw [if_neg z]
        · rw [hu3.2 _ _ rfl, rd_s, hu2.2 _ _ rfl, rd_j (by omega), h2, nI_add]
          show _ = nI (x.2.2.2 + pp T β (dR T x) (T 7 1))
          rw [e1]
  apply eX4_liveDecade
  unfold vX4_liveDecade_0
  rintro _ rfl _ rfl
  have f0 : fr aF w (q_wI (q_wI w 67 1 0) 67 2 0) := (fr.wr rfl).put rfl
  have hr0 : cR 57 S (q_wI (q_wI w 67 1 0) 67 2 0) := fun k hk => by rw [rd_i (by omega), rd_i (by omega)]; exact hS k hk
  refine K_copy hr0 (fun u hu hr => loop 0 (by omega) u (f0.trans (hu.mono aR_aF)) hr ?_ ?_)
  · rw [hu.2 _ _ rfl, rd_j (by omega), rd_s]; rfl
  · rw [hu.2 _ _ rfl, rd_s]; rfl
