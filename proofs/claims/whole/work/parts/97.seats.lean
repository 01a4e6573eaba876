/-! chairs of the class -/
theorem ch_mx : ∀ s, s < 20 → ∀ r, r < 20 → (if (0 : Int32) < nI s - nI r then nI s - nI r else 0) = nI (s - r) := by decide +kernel
theorem ch_dec : ∀ k, k < 8 → nI (k + 1) + (-1) = nI k := by decide +kernel
theorem ch_sub1 : ∀ k, k < 8 → nI (k + 1) - 1 = nI k := by decide +kernel
theorem K_firstSeat {d o l n q : Nat} {T : Tb} {β C : Nat → Nat} {w : q_Sm} {Q : Int32 → q_Sm → Prop} {X : s_Xo} (hE : KE o l T β C n w) (hq : q < 1000) (h : Q (oI (fs T q)) w) : s_EvI (d + 1) 0 mX2_firstSeat w [.ref o, .int (nI q)] Q X := by
  have ht := hE.2.2.1
  have hnc := tb_nc ht
  have hoo := hE.1
  have loop : ∀ c, c ≤ T 7 0 → s_Ex (d + 1) 0 mX2_firstSeat 4 [some (.ref o), some (.int (nI q)), some (.int (oI (fsn T q c))), some (.int (nI c))] [] w (s_I Q) X := by
    refine n_down ?_ ?_
    · apply xX2_firstSeat_4
      unfold vX2_firstSeat_4
      rw [hE.nc]
      try simp (disch := omega) only [s_Ii, s_Jj, s_Vn, forall_eq, L_m1, nI_add, nI_clamp, nI_leI, nI_ltI, nI_eq, vp_nI, pk_mul, pk_sub, Nat.zero_add, Nat.add_zero, wr_2, Classical.not_not, true_and, and_true, ne_eq, false_implies, true_implies, implies_true, not_true_eq_false, not_false_eq_true, ia_0, ia_1, za_1, ia_2, za_2, ia_3, za_3, ia_4, za_4, ia_5, za_5, ia_6, za_6, ia_7, za_7, ia_8, za_8, ia_9, za_9, ia_10, za_10, ia_11, za_11, ia_12, za_12, ia_13, za_13, ia_14, za_14, ia_15, za_15, ib_0, ib_1, zb_1, ic_0, ic_1, ic_2, ic_3, zc_1, zc_2, zc_3, id_0, id_1, id_2, id_3, zd_1, zd_2, zd_3, L_0, L_1, L_2, L_3, L_4, L_5, L_6, L_7, L_8, L_9, L_10, L_11, L_12, L_13, L_14, L_15, L_16, L_17, L_18, L_19, L_20, L_24, L_27, L_30, L_31, L_32, L_35, L_36, L_40, L_41, L_43, L_44, L_45, L_46, L_47, L_48, L_50, L_54, L_57, L_58, L_59, L_60, L_61, L_62, L_63, L_91, L_93, L_96, L_97, L_98, L_99, L_100, L_103, L_122, L_145, L_150, L_200, L_255, L_600, L_999, L_1000, L_2000, L_9999, L_10000, L_32767, L_12345, oI_s, oI_n, L_mn, if_true, if_false, ite_true, ite_false, Bool.false_eq_true, Nat.reduceEqDiff, Nat.reduceLeDiff, Nat.reduceLT, Nat.reduceAdd, Nat.reduceSub, Nat.reduceMul, Nat.le_refl, Nat.lt_irrefl, Nat.not_lt_zero]
      exact ⟨by omega, h⟩
    · intro c hc ih
      have hcell : w.1 (o + 1) c = nI (sc T c) := hE.cell hc
      have hlt := sc_lt ht hc
      have ec : Int32.toNatClampNeg (nI c) = c := nI_clamp (by omega)
      apply xX2_firstSeat_4
      unfold vX2_firstSeat_4
      unfold fsn at ih
      simp only [ec, hE.nc, hcell, nI_1 c]
      cases z : fsn T q c with
      | none =>
        rw [z] at ih
        try simp (disch := omega) only [s_Ii, s_Jj, s_Vn, forall_eq, L_m1, nI_add, nI_clamp, nI_leI, nI_ltI, nI_eq, vp_nI, pk_mul, pk_sub, Nat.zero_add, Nat.add_zero, wr_2, Classical.not_not, true_and, and_true, ne_eq, false_implies, true_implies, implies_true, not_true_eq_false, not_false_eq_true, ia_0, ia_1, za_1, ia_2, za_2, ia_3, za_3, ia_4, za_4, ia_5, za_5, ia_6, za_6, ia_7, za_7, ia_8, za_8, ia_9, za_9, ia_10, za_10, ia_11, za_11, ia_12, za_12, ia_13, za_13, ia_14, za_14, ia_15, za_15, ib_0, ib_1, zb_1, ic_0, ic_1, ic_2, ic_3, zc_1, zc_2, zc_3, id_0, id_1, id_2, id_3, zd_1, zd_2, zd_3, L_0, L_1, L_2, L_3, L_4, L_5, L_6, L_7, L_8, L_9, L_10, L_11, L_12, L_13, L_14, L_15, L_16, L_17, L_18, L_19, L_20, L_24, L_27, L_30, L_31, L_32, L_35, L_36, L_40, L_41, L_43, L_44, L_45, L_46, L_47, L_48, L_50, L_54, L_57, L_58, L_59, L_60, L_61, L_62, L_63, L_91, L_93, L_96, L_97, L_98, L_99, L_100, L_103, L_122, L_145, L_150, L_200, L_255, L_600, L_999, L_1000, L_2000, L_9999, L_10000, L_32767, L_12345, oI_s, oI_n, L_mn, if_true, if_false, ite_true, ite_false, Bool.false_eq_true, Nat.reduceEqDiff, Nat.reduceLeDiff, Nat.reduceLT, Nat.reduceAdd, Nat.reduceSub, Nat.reduceMul, Nat.le_refl, Nat.lt_irrefl, Nat.not_lt_zero]
        refine ⟨by omega, fun k => absurd k (by omega), fun _ => ?_⟩
        by_cases g : q ≤ sc T c
        · rw [if_pos ⟨g, fun s hs => by simp at hs⟩] at ih
          sorry
        · rw [if_neg (fun k => g k.1)] at ih
          sorry
      | some s =>
        sorry
  apply eX2_firstSeat
  unfold vX2_firstSeat_0
  exact loop 0 (by omega)
